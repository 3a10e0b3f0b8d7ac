theorem ml_X6_23 : Cond.methodLink RX6 23 yX1_clear ∈ lw_good := sv_mem 448 (by decide +kernel) rfl
theorem co_X1_clear : Cond.code yX1_clear cX1_clear 1 none ∈ lw_good := sv_mem 451 (by decide +kernel) rfl
theorem im_X1_clear : Cond.instanceMethod yX1_clear ∈ lw_good := sv_mem 449 (by decide +kernel) rfl
theorem se_X1_clear : Cond.selects RX1 yX1_clear yX1_clear ∈ lw_good := sv_mem 450 (by decide +kernel) rfl
theorem fl_X6_42 : Cond.fieldLink RX6 42 "SaintsRoad$Reader" "faultKind" "I" ∈ lw_good := sv_mem 123 (by decide +kernel) rfl
theorem fl_X6_9 : Cond.fieldLink RX6 9 "SaintsRoad$Reader" "faultPlace" "I" ∈ lw_good := sv_mem 125 (by decide +kernel) rfl
theorem ml_X6_45 : Cond.methodLink RX6 45 yX6_readToken ∈ lw_good := sv_mem 452 (by decide +kernel) rfl
theorem co_X6_readToken : Cond.code yX6_readToken cX6_readToken 2 none ∈ lw_good := sv_mem 455 (by decide +kernel) rfl
theorem im_X6_readToken : Cond.instanceMethod yX6_readToken ∈ lw_good := sv_mem 454 (by decide +kernel) rfl
theorem se_X6_readToken : Cond.selects RX6 yX6_readToken yX6_readToken ∈ lw_good := sv_mem 0 (by decide +kernel) rfl
theorem ml_X6_51 : Cond.methodLink RX6 51 yX6_takeToken ∈ lw_good := sv_mem 548 (by decide +kernel) rfl
theorem co_X6_takeToken : Cond.code yX6_takeToken cX6_takeToken 1 (some .int) ∈ lw_good := sv_mem 551 (by decide +kernel) rfl
theorem im_X6_takeToken : Cond.instanceMethod yX6_takeToken ∈ lw_good := sv_mem 550 (by decide +kernel) rfl
theorem se_X6_takeToken : Cond.selects RX6 yX6_takeToken yX6_takeToken ∈ lw_good := sv_mem 5 (by decide +kernel) rfl
set_option maxHeartbeats 4000000 in
set_option maxRecDepth 100000 in
theorem sf_X6_readText (l : Launch) (g : sv_G) (A : Nat → Prop) (ty : Nat → Nat) (σ : Nat → Nat → Int) (hok : sv_ok ty σ) (hTA : ∀ q, ty q ≠ 0 → A q) (hI : sv_inv sp_1 ty σ) (a : Nat) (k_a : ty a = 3) (t : Nat) (k_t : ty t = 2) (cal : Nat) (k_cal : ty cal = 7) : sv_M l yX6_readText cX6_readText 5 (some .boolean) { frames := 8, cells := 0, slots := 0, locals := 169 } g A ty σ [sv_r a, sv_r t, sv_r cal] (fun r σ' => (∃ rv : Int, r = [sv_i rv] ∧ (0 ≤ rv ∧ rv ≤ 1)) ∧ sv_inv sp_1 ty σ' ∧ sv_ofx [(3, 0), (3, 1), (3, 2), (3, 3), (3, 4), (3, 5), (3, 6), (3, 7), (3, 8), (3, 9), (3, 10), (3, 11), (3, 12), (7, 2), (7, 3), (7, 4), (7, 5), (8, 0), (8, 1), (8, 2), (8, 3), (8, 4), (8, 5), (8, 6), (8, 7), (8, 8), (8, 9), (8, 10), (8, 11)] [23] ty σ σ') := by
  refine sv_enter (by decide) (Nat.le_of_ble_eq_true rfl) ?_
  intro p e s m args below meth c C hr
  have C : sv_C g A RX6 cX6_readText 5 p s m args meth c := C
  have hr : meth.sig.returnType = (some .boolean) := hr
  have hF : sv_ofx [(3, 0), (3, 1), (3, 2), (3, 3), (3, 4), (3, 5), (3, 6), (3, 7), (3, 8), (3, 9), (3, 10), (3, 11), (3, 12), (7, 2), (7, 3), (7, 4), (7, 5), (8, 0), (8, 1), (8, 2), (8, 3), (8, 4), (8, 5), (8, 6), (8, 7), (8, 8), (8, 9), (8, 10), (8, 11)] [23] ty σ σ := sv_ofx.rf
  obtain ⟨rt1, ert1, hrt1⟩ := sv_rdn hI (k := 1) k_t rfl
  refine sv_same (st2 := []) (lv2 := [(0, sv_r a), (1, sv_r t), (2, sv_r cal)]) rfl rfl ?_
  refine sv_go C.1 C.2.1 [(.aload_n 0, 1), (.aload_n 1, 1)] (pc' := 2) (by decide +kernel) rfl (lv' := [(0, sv_r a), (1, sv_r t), (2, sv_r cal)]) (st' := [sv_r t, sv_r a]) rfl ?_
  refine sv_pf C (index := 15) (ci := 5) (k := 2) (r := (RX6, TX6, 13)) (z := (t : Int) + 1) (by decide +kernel) (by rw [k_a]; rfl) rfl (by decide) rfl fl_X6_15 rfl (Or.inr (Or.inr (Or.inr (Or.inr (Or.inl ⟨_, rfl⟩))))) (show (0 : Int) ≤ _ by omega) (hTA _ (by rw [k_a]; decide)) hok (fun hok1 => ?_)
  have hI3 := hI.up (a := a) (k := 2) (z := (t : Int) + 1) (by rw [k_a]; exact Or.inr ⟨_, rfl, k_t⟩)
  have hF4 := hF.up (a := a) (k := 2) (z := (t : Int) + 1) (Or.inr (by rw [k_a]; decide))
  generalize eσ2 : sv_up σ a 2 ((t : Int) + 1) = σ2 at hok1 hI3 hF4 ⊢
  have t5 : σ2 t 1 = rt1 := by rw [← eσ2, sv_up_a (sv_ne k_t k_a (by decide))]; exact ert1
  have t6 : σ2 a 2 = (t : Int) + 1 := by rw [← eσ2]; exact sv_up_s _ _ _ _
  refine sv_go C.1 C.2.1 [(.aload_n 0, 1), (.aload_n 2, 1)] (pc' := 7) (by decide +kernel) rfl (lv' := [(0, sv_r a), (1, sv_r t), (2, sv_r cal)]) (st' := [sv_r cal, sv_r a]) rfl ?_
  refine sv_pf C (index := 19) (ci := 5) (k := 3) (r := (RX6, TX6, 13)) (z := (cal : Int) + 1) (by decide +kernel) (by rw [k_a]; rfl) rfl (by decide) rfl fl_X6_19 rfl (Or.inr (Or.inr (Or.inr (Or.inr (Or.inl ⟨_, rfl⟩))))) (show (0 : Int) ≤ _ by omega) (hTA _ (by rw [k_a]; decide)) hok1 (fun hok7 => ?_)
  have hI9 := hI3.up (a := a) (k := 3) (z := (cal : Int) + 1) (by rw [k_a]; exact Or.inr ⟨_, rfl, k_cal⟩)
  have hF10 := hF4.up (a := a) (k := 3) (z := (cal : Int) + 1) (Or.inr (by rw [k_a]; decide))
  generalize eσ8 : sv_up σ2 a 3 ((cal : Int) + 1) = σ8 at hok7 hI9 hF10 ⊢
  have t11 : σ8 t 1 = rt1 := by rw [← eσ8, sv_up_a (sv_ne k_t k_a (by decide))]; exact t5
  have t12 : σ8 a 2 = (t : Int) + 1 := by rw [← eσ8, sv_up_k (by decide)]; exact t6
  have t13 : σ8 a 3 = (cal : Int) + 1 := by rw [← eσ8]; exact sv_up_s _ _ _ _
  refine sv_go C.1 C.2.1 [(.aload_n 0, 1)] (pc' := 11) (by decide +kernel) rfl (lv' := [(0, sv_r a), (1, sv_r t), (2, sv_r cal)]) (st' := [sv_r a]) rfl ?_
  refine sv_gf C (index := 19) (ci := 5) (k := 3) (r := (RX6, TX6, 13)) (v := sv_r cal) (by decide +kernel) (by rw [k_a]; rfl) rfl (by decide) fl_X6_19 (congrArg sv_a t13) ?_
  refine sv_cv C (index := 23) (k := 0) (rest := []) (ci := 1) (r := (RX1, TX1, 6)) (by decide +kernel) (sf_X1_clear l g A ty σ8 hok7 hTA hI9 cal k_cal) ⟨co_X1_clear, in_X1, ⟨by decide, by decide, by decide +kernel⟩, Nat.le_of_ble_eq_true rfl, Nat.le_of_ble_eq_true rfl⟩ ml_X6_23 im_X1_clear se_X1_clear (by rw [k_cal]; rfl) rfl rfl rfl (Nat.le_of_ble_eq_true rfl) ⟨Nat.zero_le _, Nat.zero_le _⟩ (fun r15 σ16 hpo14 hok17 => ?_)
  obtain ⟨rfl, hIu18, hFu18⟩ := hpo14
  have hGu18 := hF10.tr hFu18 (by decide) (by decide)
  have t19 : σ16 t 1 = rt1 := (hFu18.at k_t (by decide) (by decide)).trans t11
  have t20 : σ16 a 2 = (t : Int) + 1 := (hFu18.at k_a (by decide) (by decide)).trans t12
  have t21 : σ16 a 3 = (cal : Int) + 1 := (hFu18.at k_a (by decide) (by decide)).trans t13
  refine sv_same (st2 := []) (lv2 := [(0, sv_r a), (1, sv_r t), (2, sv_r cal)]) rfl rfl ?_
  refine sv_go C.1 C.2.1 [(.aload_n 0, 1), (.aload_n 0, 1)] (pc' := 19) (by decide +kernel) rfl (lv' := [(0, sv_r a), (1, sv_r t), (2, sv_r cal)]) (st' := [sv_r a, sv_r a]) rfl ?_
  refine sv_gf C (index := 19) (ci := 5) (k := 3) (r := (RX6, TX6, 13)) (v := sv_r cal) (by decide +kernel) (by rw [k_a]; rfl) rfl (by decide) fl_X6_19 (congrArg sv_a t21) ?_
  obtain ⟨v22, ev22, kv22⟩ := hIu18.ref (k := 0) k_cal rfl
  refine sv_gf C (index := 28) (ci := 1) (k := 0) (r := (RX1, TX1, 6)) (v := sv_r v22) (by decide +kernel) (by rw [k_cal]; rfl) rfl (by decide) fl_X6_28 (congrArg sv_a ev22) ?_
  refine sv_go C.1 C.2.1 [(.iconst 0, 1)] (pc' := 26) (by decide +kernel) rfl (lv' := [(0, sv_r a), (1, sv_r t), (2, sv_r cal)]) (st' := [sv_i 0, sv_r v22, sv_r a]) rfl ?_
  refine sv_aa C (N := "SaintsRoad$Feast") (by decide) (n := 60) (by decide +kernel) (by rw [kv22]; rfl) (by decide) (by omega) (by omega) ?_
  obtain ⟨v23, ev23, kv23⟩ := hIu18.ref (k := (0 : Int).toNat) kv22 (by first | rfl | (show (if _ then _ else _) = _; rw [if_pos (by omega)]))
  rw [ev23]
  refine sv_pf C (index := 32) (ci := 5) (k := 4) (r := (RX6, TX6, 13)) (z := (v23 : Int) + 1) (by decide +kernel) (by rw [k_a]; rfl) rfl (by decide) rfl fl_X6_32 rfl (Or.inr (Or.inr (Or.inr (Or.inr (Or.inl ⟨_, rfl⟩))))) (show (0 : Int) ≤ _ by omega) (hTA _ (by rw [k_a]; decide)) hok17 (fun hok24 => ?_)
  have hI26 := hIu18.up (a := a) (k := 4) (z := (v23 : Int) + 1) (by rw [k_a]; exact Or.inr ⟨_, rfl, kv23⟩)
  have hF27 := hGu18.up (a := a) (k := 4) (z := (v23 : Int) + 1) (Or.inr (by rw [k_a]; decide))
  generalize eσ25 : sv_up σ16 a 4 ((v23 : Int) + 1) = σ25 at hok24 hI26 hF27 ⊢
  have t28 : σ25 t 1 = rt1 := by rw [← eσ25, sv_up_a (sv_ne k_t k_a (by decide))]; exact t19
  have t29 : σ25 a 2 = (t : Int) + 1 := by rw [← eσ25, sv_up_k (by decide)]; exact t20
  have t30 : σ25 a 3 = (cal : Int) + 1 := by rw [← eσ25, sv_up_k (by decide)]; exact t21
  have t31 : σ25 cal 0 = (v22 : Int) + 1 := by rw [← eσ25, sv_up_a (sv_ne k_cal k_a (by decide))]; exact ev22
  have t32 : σ25 v22 (0 : Int).toNat = (v23 : Int) + 1 := by rw [← eσ25, sv_up_a (sv_ne kv22 k_a (by decide))]; exact ev23
  have t33 : σ25 a 4 = (v23 : Int) + 1 := by rw [← eσ25]; exact sv_up_s _ _ _ _
  refine sv_go C.1 C.2.1 [(.aload_n 0, 1), (.iconst 0, 1)] (pc' := 32) (by decide +kernel) rfl (lv' := [(0, sv_r a), (1, sv_r t), (2, sv_r cal)]) (st' := [sv_i 0, sv_r a]) rfl ?_
  refine sv_pf C (index := 36) (ci := 5) (k := 5) (r := (RX6, TX6, 13)) (z := 0) (by decide +kernel) (by rw [k_a]; rfl) rfl (by decide) rfl fl_X6_36 rfl (Or.inl rfl) ⟨by omega, by omega⟩ (hTA _ (by rw [k_a]; decide)) hok24 (fun hok34 => ?_)
  have hI36 := hI26.up (a := a) (k := 5) (z := 0) (by rw [k_a]; exact ⟨by omega, by omega⟩)
  have hF37 := hF27.up (a := a) (k := 5) (z := 0) (Or.inr (by rw [k_a]; decide))
  generalize eσ35 : sv_up σ25 a 5 0 = σ35 at hok34 hI36 hF37 ⊢
  have t38 : σ35 t 1 = rt1 := by rw [← eσ35, sv_up_a (sv_ne k_t k_a (by decide))]; exact t28
  have t39 : σ35 a 2 = (t : Int) + 1 := by rw [← eσ35, sv_up_k (by decide)]; exact t29
  have t40 : σ35 a 3 = (cal : Int) + 1 := by rw [← eσ35, sv_up_k (by decide)]; exact t30
  have t41 : σ35 cal 0 = (v22 : Int) + 1 := by rw [← eσ35, sv_up_a (sv_ne k_cal k_a (by decide))]; exact t31
  have t42 : σ35 v22 (0 : Int).toNat = (v23 : Int) + 1 := by rw [← eσ35, sv_up_a (sv_ne kv22 k_a (by decide))]; exact t32
  have t43 : σ35 a 4 = (v23 : Int) + 1 := by rw [← eσ35, sv_up_k (by decide)]; exact t33
  have t44 : σ35 a 5 = 0 := by rw [← eσ35]; exact sv_up_s _ _ _ _
  refine sv_go C.1 C.2.1 [(.aload_n 0, 1), (.iconst 0, 1)] (pc' := 37) (by decide +kernel) rfl (lv' := [(0, sv_r a), (1, sv_r t), (2, sv_r cal)]) (st' := [sv_i 0, sv_r a]) rfl ?_
  refine sv_pf C (index := 39) (ci := 5) (k := 6) (r := (RX6, TX6, 13)) (z := 0) (by decide +kernel) (by rw [k_a]; rfl) rfl (by decide) rfl fl_X6_39 rfl (Or.inl rfl) ⟨by omega, by omega⟩ (hTA _ (by rw [k_a]; decide)) hok34 (fun hok45 => ?_)
  have hI47 := hI36.up (a := a) (k := 6) (z := 0) (by rw [k_a]; exact ⟨by omega, by omega⟩)
  have hF48 := hF37.up (a := a) (k := 6) (z := 0) (Or.inr (by rw [k_a]; decide))
  generalize eσ46 : sv_up σ35 a 6 0 = σ46 at hok45 hI47 hF48 ⊢
  have t49 : σ46 t 1 = rt1 := by rw [← eσ46, sv_up_a (sv_ne k_t k_a (by decide))]; exact t38
  have t50 : σ46 a 2 = (t : Int) + 1 := by rw [← eσ46, sv_up_k (by decide)]; exact t39
  have t51 : σ46 a 3 = (cal : Int) + 1 := by rw [← eσ46, sv_up_k (by decide)]; exact t40
  have t52 : σ46 cal 0 = (v22 : Int) + 1 := by rw [← eσ46, sv_up_a (sv_ne k_cal k_a (by decide))]; exact t41
  have t53 : σ46 v22 (0 : Int).toNat = (v23 : Int) + 1 := by rw [← eσ46, sv_up_a (sv_ne kv22 k_a (by decide))]; exact t42
  have t54 : σ46 a 4 = (v23 : Int) + 1 := by rw [← eσ46, sv_up_k (by decide)]; exact t43
  have t55 : σ46 a 5 = 0 := by rw [← eσ46, sv_up_k (by decide)]; exact t44
  have t56 : σ46 a 6 = 0 := by rw [← eσ46]; exact sv_up_s _ _ _ _
  refine sv_go C.1 C.2.1 [(.aload_n 0, 1), (.iconst 0, 1)] (pc' := 42) (by decide +kernel) rfl (lv' := [(0, sv_r a), (1, sv_r t), (2, sv_r cal)]) (st' := [sv_i 0, sv_r a]) rfl ?_
  refine sv_pf C (index := 42) (ci := 5) (k := 0) (r := (RX6, TX6, 13)) (z := 0) (by decide +kernel) (by rw [k_a]; rfl) rfl (by decide) rfl fl_X6_42 rfl (Or.inl rfl) ⟨by omega, by omega⟩ (hTA _ (by rw [k_a]; decide)) hok45 (fun hok57 => ?_)
  have hI59 := hI47.up (a := a) (k := 0) (z := 0) (by rw [k_a]; exact trivial)
  have hF60 := hF48.up (a := a) (k := 0) (z := 0) (Or.inr (by rw [k_a]; decide))
  generalize eσ58 : sv_up σ46 a 0 0 = σ58 at hok57 hI59 hF60 ⊢
  have t61 : σ58 t 1 = rt1 := by rw [← eσ58, sv_up_a (sv_ne k_t k_a (by decide))]; exact t49
  have t62 : σ58 a 2 = (t : Int) + 1 := by rw [← eσ58, sv_up_k (by decide)]; exact t50
  have t63 : σ58 a 3 = (cal : Int) + 1 := by rw [← eσ58, sv_up_k (by decide)]; exact t51
  have t64 : σ58 cal 0 = (v22 : Int) + 1 := by rw [← eσ58, sv_up_a (sv_ne k_cal k_a (by decide))]; exact t52
  have t65 : σ58 v22 (0 : Int).toNat = (v23 : Int) + 1 := by rw [← eσ58, sv_up_a (sv_ne kv22 k_a (by decide))]; exact t53
  have t66 : σ58 a 4 = (v23 : Int) + 1 := by rw [← eσ58, sv_up_k (by decide)]; exact t54
  have t67 : σ58 a 5 = 0 := by rw [← eσ58, sv_up_k (by decide)]; exact t55
  have t68 : σ58 a 6 = 0 := by rw [← eσ58, sv_up_k (by decide)]; exact t56
  have t69 : σ58 a 0 = 0 := by rw [← eσ58]; exact sv_up_s _ _ _ _
  refine sv_go C.1 C.2.1 [(.aload_n 0, 1), (.iconst (-1), 1)] (pc' := 47) (by decide +kernel) rfl (lv' := [(0, sv_r a), (1, sv_r t), (2, sv_r cal)]) (st' := [sv_i ((-1)), sv_r a]) rfl ?_
  obtain ⟨nc, enc, hnc⟩ := sv_rdn hI59 (k := 2) k_cal rfl
  refine sv_pf C (index := 9) (ci := 5) (k := 1) (r := (RX6, TX6, 13)) (z := (-1)) (by decide +kernel) (by rw [k_a]; rfl) rfl (by decide) rfl fl_X6_9 rfl (Or.inl rfl) ⟨by omega, by omega⟩ (hTA _ (by rw [k_a]; decide)) hok57 (fun hok70 => ?_)
  have hI72 := hI59.up (a := a) (k := 1) (z := (-1)) (by rw [k_a]; exact trivial)
  have hF73 := hF60.up (a := a) (k := 1) (z := (-1)) (Or.inr (by rw [k_a]; decide))
  generalize eσ71 : sv_up σ58 a 1 ((-1)) = σ71 at hok70 hI72 hF73 ⊢
  have t74 : σ71 t 1 = rt1 := by rw [← eσ71, sv_up_a (sv_ne k_t k_a (by decide))]; exact t61
  have t75 : σ71 a 2 = (t : Int) + 1 := by rw [← eσ71, sv_up_k (by decide)]; exact t62
  have t76 : σ71 a 3 = (cal : Int) + 1 := by rw [← eσ71, sv_up_k (by decide)]; exact t63
  have t77 : σ71 cal 0 = (v22 : Int) + 1 := by rw [← eσ71, sv_up_a (sv_ne k_cal k_a (by decide))]; exact t64
  have t78 : σ71 v22 (0 : Int).toNat = (v23 : Int) + 1 := by rw [← eσ71, sv_up_a (sv_ne kv22 k_a (by decide))]; exact t65
  have t79 : σ71 a 4 = (v23 : Int) + 1 := by rw [← eσ71, sv_up_k (by decide)]; exact t66
  have t80 : σ71 a 5 = 0 := by rw [← eσ71, sv_up_k (by decide)]; exact t67
  have t81 : σ71 a 6 = 0 := by rw [← eσ71, sv_up_k (by decide)]; exact t68
  have t82 : σ71 a 0 = 0 := by rw [← eσ71, sv_up_k (by decide)]; exact t69
  have t83 : σ71 cal 2 = nc := by rw [← eσ71, sv_up_a (sv_ne k_cal k_a (by decide))]; exact enc
  have t84 : σ71 a 1 = (-1) := by rw [← eσ71]; exact sv_up_s _ _ _ _
  refine sv_go C.1 C.2.1 [(.iconst 1, 1), (.istore_n 3, 1), (.iconst 0, 1), (.istore 4, 2)] (pc' := 55) (by decide +kernel) rfl (lv' := [(0, sv_r a), (1, sv_r t), (2, sv_r cal), (3, sv_i 1), (4, sv_i 0)]) (st' := []) rfl ?_
  have J87 : ∀ (Yg85_fa_4 : Nat) (Yg85_fa_5 : Int) (Yg85_fa_6 : Int) (Yg85_fa_0 : Int) (Yg85_fcal_2 : Int) (σ86 : Nat → Nat → Int), (ty Yg85_fa_4 = 8) → (0 ≤ Yg85_fa_5 ∧ Yg85_fa_5 ≤ 22) → (0 ≤ Yg85_fa_6 ∧ Yg85_fa_6 ≤ 4000) → (0 ≤ Yg85_fa_0 ∧ Yg85_fa_0 ≤ 5) → (0 ≤ Yg85_fcal_2 ∧ Yg85_fcal_2 ≤ 60) → (sv_ok ty σ86) → (sv_inv sp_1 ty σ86) → (sv_ofx [(3, 0), (3, 1), (3, 2), (3, 3), (3, 4), (3, 5), (3, 6), (3, 7), (3, 8), (3, 9), (3, 10), (3, 11), (3, 12), (7, 2), (7, 3), (7, 4), (7, 5), (8, 0), (8, 1), (8, 2), (8, 3), (8, 4), (8, 5), (8, 6), (8, 7), (8, 8), (8, 9), (8, 10), (8, 11)] [23] ty σ σ86) → (σ86 t 1 = rt1) → (σ86 a 2 = (t : Int) + 1) → (σ86 a 3 = (cal : Int) + 1) → (σ86 cal 0 = (v22 : Int) + 1) → (σ86 v22 (0 : Int).toNat = (v23 : Int) + 1) → (σ86 a 4 = (Yg85_fa_4 : Int) + 1) → (σ86 a 5 = Yg85_fa_5) → (σ86 a 6 = Yg85_fa_6) → (σ86 a 0 = Yg85_fa_0) → (σ86 cal 2 = Yg85_fcal_2) → (σ86 a 1 = (-1)) → sv_E p l e { frames := 8, cells := 0, slots := 0, locals := 169 } s m args below meth c 5 g A ty (fun r σ' => (∃ rv : Int, r = [sv_i rv] ∧ (0 ≤ rv ∧ rv ≤ 1)) ∧ sv_inv sp_1 ty σ' ∧ sv_ofx [(3, 0), (3, 1), (3, 2), (3, 3), (3, 4), (3, 5), (3, 6), (3, 7), (3, 8), (3, 9), (3, 10), (3, 11), (3, 12), (7, 2), (7, 3), (7, 4), (7, 5), (8, 0), (8, 1), (8, 2), (8, 3), (8, 4), (8, 5), (8, 6), (8, 7), (8, 8), (8, 9), (8, 10), (8, 11)] [23] ty σ σ') σ86 122 [(0, sv_r a)] [] := by
    intro Yg85_fa_4 Yg85_fa_5 Yg85_fa_6 Yg85_fa_0 Yg85_fcal_2 σ86 kYg85_fa_4 hYg85_fa_5 hYg85_fa_6 hYg85_fa_0 hYg85_fcal_2 okσ86 Iσ86 Fσ86 eσ86_0 eσ86_1 eσ86_2 eσ86_3 eσ86_4 eσ86_5 eσ86_6 eσ86_7 eσ86_8 eσ86_9 eσ86_10
    refine sv_go C.1 C.2.1 [(.aload_n 0, 1)] (pc' := 123) (by decide +kernel) rfl (lv' := [(0, sv_r a)]) (st' := [sv_r a]) rfl ?_
    refine sv_gf C (index := 42) (ci := 5) (k := 0) (r := (RX6, TX6, 13)) (v := sv_i Yg85_fa_0) (by decide +kernel) (by rw [k_a]; rfl) rfl (by decide) fl_X6_42 (congrArg sv_i eσ86_8) ?_
    have J91 : ∀ (Jg89_fa_1 : Int) (σ90 : Nat → Nat → Int), ((-1) ≤ Jg89_fa_1 ∧ Jg89_fa_1 ≤ 4000) → (sv_ok ty σ90) → (sv_inv sp_1 ty σ90) → (sv_ofx [(3, 0), (3, 1), (3, 2), (3, 3), (3, 4), (3, 5), (3, 6), (3, 7), (3, 8), (3, 9), (3, 10), (3, 11), (3, 12), (7, 2), (7, 3), (7, 4), (7, 5), (8, 0), (8, 1), (8, 2), (8, 3), (8, 4), (8, 5), (8, 6), (8, 7), (8, 8), (8, 9), (8, 10), (8, 11)] [23] ty σ σ90) → (σ90 t 1 = rt1) → (σ90 a 2 = (t : Int) + 1) → (σ90 a 3 = (cal : Int) + 1) → (σ90 cal 0 = (v22 : Int) + 1) → (σ90 v22 (0 : Int).toNat = (v23 : Int) + 1) → (σ90 a 4 = (Yg85_fa_4 : Int) + 1) → (σ90 a 5 = Yg85_fa_5) → (σ90 a 6 = Yg85_fa_6) → (σ90 a 0 = Yg85_fa_0) → (σ90 cal 2 = Yg85_fcal_2) → (σ90 a 1 = Jg89_fa_1) → sv_E p l e { frames := 8, cells := 0, slots := 0, locals := 169 } s m args below meth c 5 g A ty (fun r σ' => (∃ rv : Int, r = [sv_i rv] ∧ (0 ≤ rv ∧ rv ≤ 1)) ∧ sv_inv sp_1 ty σ' ∧ sv_ofx [(3, 0), (3, 1), (3, 2), (3, 3), (3, 4), (3, 5), (3, 6), (3, 7), (3, 8), (3, 9), (3, 10), (3, 11), (3, 12), (7, 2), (7, 3), (7, 4), (7, 5), (8, 0), (8, 1), (8, 2), (8, 3), (8, 4), (8, 5), (8, 6), (8, 7), (8, 8), (8, 9), (8, 10), (8, 11)] [23] ty σ σ') σ90 137 [(0, sv_r a)] [] := by
      intro Jg89_fa_1 σ90 hJg89_fa_1 okσ90 Iσ90 Fσ90 eσ90_0 eσ90_1 eσ90_2 eσ90_3 eσ90_4 eσ90_5 eσ90_6 eσ90_7 eσ90_8 eσ90_9 eσ90_10
      refine sv_go C.1 C.2.1 [(.aload_n 0, 1)] (pc' := 138) (by decide +kernel) rfl (lv' := [(0, sv_r a)]) (st' := [sv_r a]) rfl ?_
      refine sv_gf C (index := 42) (ci := 5) (k := 0) (r := (RX6, TX6, 13)) (v := sv_i Yg85_fa_0) (by decide +kernel) (by rw [k_a]; rfl) rfl (by decide) fl_X6_42 (congrArg sv_i eσ90_8) ?_
      refine sv_if C.1 C.2.1 (cnd := .ne) (off := 7) (tgt := 148) (by decide +kernel) (by decide) ⟨by omega, by omega⟩ (fun (h92 : Yg85_fa_0 ≠ 0) => ?_) (fun (h92 : ¬ (Yg85_fa_0 ≠ 0)) => ?_)
      · refine sv_go C.1 C.2.1 [(.iconst 0, 1)] (pc' := 149) (by decide +kernel) rfl (lv' := [(0, sv_r a)]) (st' := [sv_i 0]) rfl ?_
        exact sv_zret C hr (by omega) (by decide +kernel) okσ90 (⟨⟨_, rfl, ⟨by omega, by omega⟩⟩, Iσ90, Fσ90⟩)
      · refine sv_go C.1 C.2.1 [(.iconst 1, 1)] (pc' := 145) (by decide +kernel) rfl (lv' := [(0, sv_r a)]) (st' := [sv_i 1]) rfl ?_
        refine sv_goto C.1 C.2.1 (off := 4) (tgt := 149) (by decide +kernel) (by decide) ?_
        exact sv_zret C hr (by omega) (by decide +kernel) okσ90 (⟨⟨_, rfl, ⟨by omega, by omega⟩⟩, Iσ90, Fσ90⟩)
    refine sv_if C.1 C.2.1 (cnd := .eq) (off := 11) (tgt := 137) (by decide +kernel) (by decide) ⟨by omega, by omega⟩ (fun (h88 : Yg85_fa_0 = 0) => ?_) (fun (h88 : ¬ (Yg85_fa_0 = 0)) => ?_)
    · exact J91 ((-1)) σ86 ⟨by omega, by omega⟩ okσ86 Iσ86 Fσ86 eσ86_0 eσ86_1 eσ86_2 eσ86_3 eσ86_4 eσ86_5 eσ86_6 eσ86_7 eσ86_8 eσ86_9 eσ86_10
    · refine sv_go C.1 C.2.1 [(.aload_n 0, 1), (.aload_n 0, 1)] (pc' := 131) (by decide +kernel) rfl (lv' := [(0, sv_r a)]) (st' := [sv_r a, sv_r a]) rfl ?_
      obtain ⟨v93, ev93, hv93⟩ := sv_rdn Iσ86 (k := 8) k_a rfl
      refine sv_gf C (index := 55) (ci := 5) (k := 8) (r := (RX6, TX6, 13)) (v := sv_i v93) (by decide +kernel) (by rw [k_a]; rfl) rfl (by decide) fl_X6_55 (congrArg sv_i ev93) ?_
      refine sv_pf C (index := 9) (ci := 5) (k := 1) (r := (RX6, TX6, 13)) (z := v93) (by decide +kernel) (by rw [k_a]; rfl) rfl (by decide) rfl fl_X6_9 rfl (Or.inl rfl) ⟨by omega, by omega⟩ (hTA _ (by rw [k_a]; decide)) okσ86 (fun hok94 => ?_)
      have hI96 := Iσ86.up (a := a) (k := 1) (z := v93) (by rw [k_a]; exact trivial)
      have hF97 := Fσ86.up (a := a) (k := 1) (z := v93) (Or.inr (by rw [k_a]; decide))
      generalize eσ95 : sv_up σ86 a 1 v93 = σ95 at hok94 hI96 hF97 ⊢
      have t98 : σ95 t 1 = rt1 := by rw [← eσ95, sv_up_a (sv_ne k_t k_a (by decide))]; exact eσ86_0
      have t99 : σ95 a 2 = (t : Int) + 1 := by rw [← eσ95, sv_up_k (by decide)]; exact eσ86_1
      have t100 : σ95 a 3 = (cal : Int) + 1 := by rw [← eσ95, sv_up_k (by decide)]; exact eσ86_2
      have t101 : σ95 cal 0 = (v22 : Int) + 1 := by rw [← eσ95, sv_up_a (sv_ne k_cal k_a (by decide))]; exact eσ86_3
      have t102 : σ95 v22 (0 : Int).toNat = (v23 : Int) + 1 := by rw [← eσ95, sv_up_a (sv_ne kv22 k_a (by decide))]; exact eσ86_4
      have t103 : σ95 a 4 = (Yg85_fa_4 : Int) + 1 := by rw [← eσ95, sv_up_k (by decide)]; exact eσ86_5
      have t104 : σ95 a 5 = Yg85_fa_5 := by rw [← eσ95, sv_up_k (by decide)]; exact eσ86_6
      have t105 : σ95 a 6 = Yg85_fa_6 := by rw [← eσ95, sv_up_k (by decide)]; exact eσ86_7
      have t106 : σ95 a 0 = Yg85_fa_0 := by rw [← eσ95, sv_up_k (by decide)]; exact eσ86_8
      have t107 : σ95 cal 2 = Yg85_fcal_2 := by rw [← eσ95, sv_up_a (sv_ne k_cal k_a (by decide))]; exact eσ86_9
      have t108 : σ95 a 8 = v93 := by rw [← eσ95, sv_up_k (by decide)]; exact ev93
      have t109 : σ95 a 1 = v93 := by rw [← eσ95]; exact sv_up_s _ _ _ _
      exact J91 v93 σ95 ⟨by omega, by omega⟩ hok94 hI96 hF97 t98 t99 t100 t101 t102 t103 t104 t105 t106 t107 t109
  have L112 : ∀ (n : Nat) (Xg110_l3 : Int) (Xg110_l4 : Int) (Xg110_fa_4 : Nat) (Xg110_fa_5 : Int) (Xg110_fa_6 : Int) (Xg110_fa_0 : Int) (Xg110_fcal_2 : Int) (σ111 : Nat → Nat → Int), (0 ≤ Xg110_l3 ∧ Xg110_l3 ≤ 1) → (0 ≤ Xg110_l4 ∧ Xg110_l4 ≤ 4001) → (ty Xg110_fa_4 = 8) → (0 ≤ Xg110_fa_5 ∧ Xg110_fa_5 ≤ 22) → (0 ≤ Xg110_fa_6 ∧ Xg110_fa_6 ≤ 4000) → (0 ≤ Xg110_fa_0 ∧ Xg110_fa_0 ≤ 5) → (0 ≤ Xg110_fcal_2 ∧ Xg110_fcal_2 ≤ 60) → (sv_ok ty σ111) → (sv_inv sp_1 ty σ111) → (sv_ofx [(3, 0), (3, 1), (3, 2), (3, 3), (3, 4), (3, 5), (3, 6), (3, 7), (3, 8), (3, 9), (3, 10), (3, 11), (3, 12), (7, 2), (7, 3), (7, 4), (7, 5), (8, 0), (8, 1), (8, 2), (8, 3), (8, 4), (8, 5), (8, 6), (8, 7), (8, 8), (8, 9), (8, 10), (8, 11)] [23] ty σ σ111) → (σ111 t 1 = rt1) → (σ111 a 2 = (t : Int) + 1) → (σ111 a 3 = (cal : Int) + 1) → (σ111 cal 0 = (v22 : Int) + 1) → (σ111 v22 (0 : Int).toNat = (v23 : Int) + 1) → (σ111 a 4 = (Xg110_fa_4 : Int) + 1) → (σ111 a 5 = Xg110_fa_5) → (σ111 a 6 = Xg110_fa_6) → (σ111 a 0 = Xg110_fa_0) → (σ111 cal 2 = Xg110_fcal_2) → (σ111 a 1 = (-1)) → ((Xg110_fa_5 = 0 ∨ Xg110_fa_5 = 5 ∨ 18 ≤ Xg110_fa_5 ∨ Xg110_fcal_2 ≤ 59)) → (Xg110_fa_6 ≤ rt1) → (4001 - Xg110_l4) < (n : Int) → sv_E p l e { frames := 8, cells := 0, slots := 0, locals := 169 } s m args below meth c 5 g A ty (fun r σ' => (∃ rv : Int, r = [sv_i rv] ∧ (0 ≤ rv ∧ rv ≤ 1)) ∧ sv_inv sp_1 ty σ' ∧ sv_ofx [(3, 0), (3, 1), (3, 2), (3, 3), (3, 4), (3, 5), (3, 6), (3, 7), (3, 8), (3, 9), (3, 10), (3, 11), (3, 12), (7, 2), (7, 3), (7, 4), (7, 5), (8, 0), (8, 1), (8, 2), (8, 3), (8, 4), (8, 5), (8, 6), (8, 7), (8, 8), (8, 9), (8, 10), (8, 11)] [23] ty σ σ') σ111 55 [(0, sv_r a), (3, sv_i Xg110_l3), (4, sv_i Xg110_l4)] [] := by
    intro n
    induction n with
    | zero => intro Xg110_l3 Xg110_l4 Xg110_fa_4 Xg110_fa_5 Xg110_fa_6 Xg110_fa_0 Xg110_fcal_2 σ111 hXg110_l3 hXg110_l4 kXg110_fa_4 hXg110_fa_5 hXg110_fa_6 hXg110_fa_0 hXg110_fcal_2 okσ111 Iσ111 Fσ111 eσ111_0 eσ111_1 eσ111_2 eσ111_3 eσ111_4 eσ111_5 eσ111_6 eσ111_7 eσ111_8 eσ111_9 eσ111_10 hhJ hhL hmu; exact absurd hmu (by omega)
    | succ n ih113 =>
      intro Xg110_l3 Xg110_l4 Xg110_fa_4 Xg110_fa_5 Xg110_fa_6 Xg110_fa_0 Xg110_fcal_2 σ111 hXg110_l3 hXg110_l4 kXg110_fa_4 hXg110_fa_5 hXg110_fa_6 hXg110_fa_0 hXg110_fcal_2 okσ111 Iσ111 Fσ111 eσ111_0 eσ111_1 eσ111_2 eσ111_3 eσ111_4 eσ111_5 eσ111_6 eσ111_7 eσ111_8 eσ111_9 eσ111_10 hhJ hhL hmu
      refine sv_go C.1 C.2.1 [(.iload_n 3, 1)] (pc' := 56) (by decide +kernel) rfl (lv' := [(0, sv_r a), (3, sv_i Xg110_l3), (4, sv_i Xg110_l4)]) (st' := [sv_i Xg110_l3]) rfl ?_
      refine sv_if C.1 C.2.1 (cnd := .eq) (off := 66) (tgt := 122) (by decide +kernel) (by decide) ⟨by omega, by omega⟩ (fun (h114 : Xg110_l3 = 0) => ?_) (fun (h114 : ¬ (Xg110_l3 = 0)) => ?_)
      · refine sv_pick [0] (lv2 := [(0, sv_r a)]) rfl ?_
        exact J87 Xg110_fa_4 Xg110_fa_5 Xg110_fa_6 Xg110_fa_0 Xg110_fcal_2 σ111 kXg110_fa_4 ⟨by omega, by omega⟩ ⟨by omega, by omega⟩ ⟨by omega, by omega⟩ ⟨by omega, by omega⟩ okσ111 Iσ111 Fσ111 eσ111_0 eσ111_1 eσ111_2 eσ111_3 eσ111_4 eσ111_5 eσ111_6 eσ111_7 eσ111_8 eσ111_9 eσ111_10
      · refine sv_go C.1 C.2.1 [(.iload 4, 2), (.sipush 4000, 3)] (pc' := 64) (by decide +kernel) rfl (lv' := [(0, sv_r a), (3, sv_i Xg110_l3), (4, sv_i Xg110_l4)]) (st' := [sv_i 4000, sv_i Xg110_l4]) rfl ?_
        refine sv_icmp C.1 C.2.1 (cnd := .gt) (off := 58) (tgt := 122) (by decide +kernel) (by decide) ⟨by omega, by omega⟩ ⟨by omega, by omega⟩ (fun (h115 : 4000 < Xg110_l4) => ?_) (fun (h115 : ¬ (4000 < Xg110_l4)) => ?_)
        · refine sv_pick [0] (lv2 := [(0, sv_r a)]) rfl ?_
          exact J87 Xg110_fa_4 Xg110_fa_5 Xg110_fa_6 Xg110_fa_0 Xg110_fcal_2 σ111 kXg110_fa_4 ⟨by omega, by omega⟩ ⟨by omega, by omega⟩ ⟨by omega, by omega⟩ ⟨by omega, by omega⟩ okσ111 Iσ111 Fσ111 eσ111_0 eσ111_1 eσ111_2 eσ111_3 eσ111_4 eσ111_5 eσ111_6 eσ111_7 eσ111_8 eσ111_9 eσ111_10
        · refine sv_go C.1 C.2.1 [(.aload_n 0, 1)] (pc' := 68) (by decide +kernel) rfl (lv' := [(0, sv_r a), (3, sv_i Xg110_l3), (4, sv_i Xg110_l4)]) (st' := [sv_r a]) rfl ?_
          refine sv_cv C (index := 45) (k := 0) (rest := []) (ci := 5) (r := (RX6, TX6, 13)) (by decide +kernel) (sf_X6_readToken l g A ty σ111 okσ111 hTA Iσ111 a k_a t k_t cal k_cal Xg110_fa_4 kXg110_fa_4 (Xg110_fa_6) ⟨by omega, by omega⟩ (rt1) ⟨by omega, by omega⟩ eσ111_1 eσ111_2 eσ111_5 eσ111_7 eσ111_0 (by omega)) ⟨co_X6_readToken, in_X6, ⟨by decide, by decide, by decide +kernel⟩, Nat.le_of_ble_eq_true rfl, Nat.le_of_ble_eq_true rfl⟩ ml_X6_45 im_X6_readToken se_X6_readToken (by rw [k_a]; rfl) rfl rfl rfl (Nat.le_of_ble_eq_true rfl) ⟨Nat.zero_le _, Nat.zero_le _⟩ (fun r117 σ118 hpo116 hok119 => ?_)
          obtain ⟨rfl, hIu120, hFu120, xu120⟩ := hpo116
          have hGu120 := Fσ111.tr hFu120 (by decide) (by decide)
          have t121 : σ118 t 1 = rt1 := (hFu120.at k_t (by decide) (by decide)).trans eσ111_0
          have t122 : σ118 a 2 = (t : Int) + 1 := (hFu120.at k_a (by decide) (by decide)).trans eσ111_1
          have t123 : σ118 a 3 = (cal : Int) + 1 := (hFu120.at k_a (by decide) (by decide)).trans eσ111_2
          have t124 : σ118 cal 0 = (v22 : Int) + 1 := (hFu120.at k_cal (by decide) (by decide)).trans eσ111_3
          have t125 : σ118 v22 (0 : Int).toNat = (v23 : Int) + 1 := (hFu120.atA kv22 (by decide) (by decide)).trans eσ111_4
          have t126 : σ118 a 4 = (Xg110_fa_4 : Int) + 1 := (hFu120.at k_a (by decide) (by decide)).trans eσ111_5
          have t127 : σ118 a 5 = Xg110_fa_5 := (hFu120.at k_a (by decide) (by decide)).trans eσ111_6
          have t128 : σ118 a 0 = Xg110_fa_0 := (hFu120.at k_a (by decide) (by decide)).trans eσ111_8
          have t129 : σ118 cal 2 = Xg110_fcal_2 := (hFu120.at k_cal (by decide) (by decide)).trans eσ111_9
          have t130 : σ118 a 1 = (-1) := (hFu120.at k_a (by decide) (by decide)).trans eσ111_10
          obtain ⟨wu120, ewu120, hwu120⟩ := sv_rdn hIu120 (k := 6) k_a rfl
          rw [ewu120] at xu120
          refine sv_same (st2 := []) (lv2 := [(0, sv_r a), (3, sv_i Xg110_l3), (4, sv_i Xg110_l4)]) rfl rfl ?_
          refine sv_go C.1 C.2.1 [(.aload_n 0, 1)] (pc' := 72) (by decide +kernel) rfl (lv' := [(0, sv_r a), (3, sv_i Xg110_l3), (4, sv_i Xg110_l4)]) (st' := [sv_r a]) rfl ?_
          obtain ⟨v131, ev131, hv131⟩ := sv_rdn hIu120 (k := 7) k_a rfl
          refine sv_gf C (index := 48) (ci := 5) (k := 7) (r := (RX6, TX6, 13)) (v := sv_i v131) (by decide +kernel) (by rw [k_a]; rfl) rfl (by decide) fl_X6_48 (congrArg sv_i ev131) ?_
          have J134 : ∀ (Jg133_s0 : Int), (0 ≤ Jg133_s0 ∧ Jg133_s0 ≤ 1) → sv_E p l e { frames := 8, cells := 0, slots := 0, locals := 169 } s m args below meth c 5 g A ty (fun r σ' => (∃ rv : Int, r = [sv_i rv] ∧ (0 ≤ rv ∧ rv ≤ 1)) ∧ sv_inv sp_1 ty σ' ∧ sv_ofx [(3, 0), (3, 1), (3, 2), (3, 3), (3, 4), (3, 5), (3, 6), (3, 7), (3, 8), (3, 9), (3, 10), (3, 11), (3, 12), (7, 2), (7, 3), (7, 4), (7, 5), (8, 0), (8, 1), (8, 2), (8, 3), (8, 4), (8, 5), (8, 6), (8, 7), (8, 8), (8, 9), (8, 10), (8, 11)] [23] ty σ σ') σ118 90 [(0, sv_r a), (4, sv_i Xg110_l4)] [sv_i Jg133_s0] := by
            intro Jg133_s0 hJg133_s0
            refine sv_go C.1 C.2.1 [(.istore_n 3, 1), (.iload_n 3, 1)] (pc' := 92) (by decide +kernel) rfl (lv' := [(0, sv_r a), (3, sv_i Jg133_s0), (4, sv_i Xg110_l4)]) (st' := [sv_i Jg133_s0]) rfl ?_
            have J138 : ∀ (Jg136_l3 : Int) (Jg136_fa_4 : Nat) (Jg136_fa_5 : Int) (Jg136_fa_0 : Int) (Jg136_fcal_2 : Int) (σ137 : Nat → Nat → Int), (0 ≤ Jg136_l3 ∧ Jg136_l3 ≤ 1) → (ty Jg136_fa_4 = 8) → (0 ≤ Jg136_fa_5 ∧ Jg136_fa_5 ≤ 22) → (0 ≤ Jg136_fa_0 ∧ Jg136_fa_0 ≤ 5) → (0 ≤ Jg136_fcal_2 ∧ Jg136_fcal_2 ≤ 60) → (sv_ok ty σ137) → (sv_inv sp_1 ty σ137) → (sv_ofx [(3, 0), (3, 1), (3, 2), (3, 3), (3, 4), (3, 5), (3, 6), (3, 7), (3, 8), (3, 9), (3, 10), (3, 11), (3, 12), (7, 2), (7, 3), (7, 4), (7, 5), (8, 0), (8, 1), (8, 2), (8, 3), (8, 4), (8, 5), (8, 6), (8, 7), (8, 8), (8, 9), (8, 10), (8, 11)] [23] ty σ σ137) → (σ137 t 1 = rt1) → (σ137 a 2 = (t : Int) + 1) → (σ137 a 3 = (cal : Int) + 1) → (σ137 cal 0 = (v22 : Int) + 1) → (σ137 v22 (0 : Int).toNat = (v23 : Int) + 1) → (σ137 a 4 = (Jg136_fa_4 : Int) + 1) → (σ137 a 5 = Jg136_fa_5) → (σ137 a 0 = Jg136_fa_0) → (σ137 cal 2 = Jg136_fcal_2) → (σ137 a 1 = (-1)) → (σ137 a 6 = wu120) → (σ137 a 7 = v131) → ((Jg136_fa_5 = 0 ∨ Jg136_fa_5 = 5 ∨ 18 ≤ Jg136_fa_5 ∨ Jg136_fcal_2 ≤ 59)) → (wu120 ≤ rt1) → sv_E p l e { frames := 8, cells := 0, slots := 0, locals := 169 } s m args below meth c 5 g A ty (fun r σ' => (∃ rv : Int, r = [sv_i rv] ∧ (0 ≤ rv ∧ rv ≤ 1)) ∧ sv_inv sp_1 ty σ' ∧ sv_ofx [(3, 0), (3, 1), (3, 2), (3, 3), (3, 4), (3, 5), (3, 6), (3, 7), (3, 8), (3, 9), (3, 10), (3, 11), (3, 12), (7, 2), (7, 3), (7, 4), (7, 5), (8, 0), (8, 1), (8, 2), (8, 3), (8, 4), (8, 5), (8, 6), (8, 7), (8, 8), (8, 9), (8, 10), (8, 11)] [23] ty σ σ') σ137 116 [(0, sv_r a), (3, sv_i Jg136_l3), (4, sv_i Xg110_l4)] [] := by
              intro Jg136_l3 Jg136_fa_4 Jg136_fa_5 Jg136_fa_0 Jg136_fcal_2 σ137 hJg136_l3 kJg136_fa_4 hJg136_fa_5 hJg136_fa_0 hJg136_fcal_2 okσ137 Iσ137 Fσ137 eσ137_0 eσ137_1 eσ137_2 eσ137_3 eσ137_4 eσ137_5 eσ137_6 eσ137_7 eσ137_8 eσ137_9 eσ137_10 eσ137_11 hgJ hgL
              refine sv_go C.1 C.2.1 [(.iinc 4 1, 3)] (pc' := 119) (by decide +kernel) rfl (lv' := [(0, sv_r a), (3, sv_i Jg136_l3), (4, sv_i (Xg110_l4 + 1))]) (st' := []) rfl ?_
              refine sv_goto C.1 C.2.1 (off := (-64)) (tgt := 55) (by decide +kernel) (by decide) ?_
              exact ih113 Jg136_l3 (Xg110_l4 + 1) Jg136_fa_4 Jg136_fa_5 wu120 Jg136_fa_0 Jg136_fcal_2 σ137 ⟨by omega, by omega⟩ ⟨by omega, by omega⟩ kJg136_fa_4 ⟨by omega, by omega⟩ ⟨by omega, by omega⟩ ⟨by omega, by omega⟩ ⟨by omega, by omega⟩ okσ137 Iσ137 Fσ137 eσ137_0 eσ137_1 eσ137_2 eσ137_3 eσ137_4 eσ137_5 eσ137_6 eσ137_10 eσ137_7 eσ137_8 eσ137_9 (by omega) (by omega) (by omega)
            refine sv_if C.1 C.2.1 (cnd := .eq) (off := 24) (tgt := 116) (by decide +kernel) (by decide) ⟨by omega, by omega⟩ (fun (h135 : Jg133_s0 = 0) => ?_) (fun (h135 : ¬ (Jg133_s0 = 0)) => ?_)
            · exact J138 Jg133_s0 Xg110_fa_4 Xg110_fa_5 Xg110_fa_0 Xg110_fcal_2 σ118 ⟨by omega, by omega⟩ kXg110_fa_4 ⟨by omega, by omega⟩ ⟨by omega, by omega⟩ ⟨by omega, by omega⟩ hok119 hIu120 hGu120 t121 t122 t123 t124 t125 t126 t127 t128 t129 t130 ewu120 ev131 (by omega) (by omega)
            · refine sv_go C.1 C.2.1 [(.aload_n 0, 1), (.aload_n 0, 1)] (pc' := 97) (by decide +kernel) rfl (lv' := [(0, sv_r a), (3, sv_i Jg133_s0), (4, sv_i Xg110_l4)]) (st' := [sv_r a, sv_r a]) rfl ?_
              refine sv_cv C (index := 51) (k := 0) (rest := [sv_r a]) (ci := 5) (r := (RX6, TX6, 13)) (by decide +kernel) (sf_X6_takeToken l g A ty σ118 hok119 hTA hIu120 a k_a t k_t cal k_cal Xg110_fa_4 kXg110_fa_4 (Xg110_fa_5) ⟨by omega, by omega⟩ (Xg110_fcal_2) ⟨by omega, by omega⟩ t122 t123 t126 t127 t129 (by omega)) ⟨co_X6_takeToken, in_X6, ⟨by decide, by decide, by decide +kernel⟩, Nat.le_of_ble_eq_true rfl, Nat.le_of_ble_eq_true rfl⟩ ml_X6_51 im_X6_takeToken se_X6_takeToken (by rw [k_a]; rfl) rfl rfl rfl (Nat.le_of_ble_eq_true rfl) ⟨Nat.zero_le _, Nat.zero_le _⟩ (fun r140 σ141 hpo139 hok142 => ?_)
              obtain ⟨⟨vu143, rfl, hvu143⟩, hIu143, hFu143, xu143⟩ := hpo139
              have hGu143 := hGu120.tr hFu143 (by decide) (by decide)
              have t144 : σ141 t 1 = rt1 := (hFu143.at k_t (by decide) (by decide)).trans t121
              have t145 : σ141 a 2 = (t : Int) + 1 := (hFu143.at k_a (by decide) (by decide)).trans t122
              have t146 : σ141 a 3 = (cal : Int) + 1 := (hFu143.at k_a (by decide) (by decide)).trans t123
              have t147 : σ141 cal 0 = (v22 : Int) + 1 := (hFu143.at k_cal (by decide) (by decide)).trans t124
              have t148 : σ141 v22 (0 : Int).toNat = (v23 : Int) + 1 := (hFu143.atA kv22 (by decide) (by decide)).trans t125
              have t149 : σ141 a 0 = Xg110_fa_0 := (hFu143.at k_a (by decide) (by decide)).trans t128
              have t150 : σ141 a 1 = (-1) := (hFu143.at k_a (by decide) (by decide)).trans t130
              have t151 : σ141 a 6 = wu120 := (hFu143.at k_a (by decide) (by decide)).trans ewu120
              have t152 : σ141 a 7 = v131 := (hFu143.at k_a (by decide) (by decide)).trans ev131
              obtain ⟨wu143_5, ewu143_5, hwu143_5⟩ := sv_rdn hIu143 (k := 5) k_a rfl
              rw [ewu143_5] at xu143
              obtain ⟨wu143_2, ewu143_2, hwu143_2⟩ := sv_rdn hIu143 (k := 2) k_cal rfl
              rw [ewu143_2] at xu143
              obtain ⟨xu143, fu143, efu143, kfu143⟩ := xu143
              refine sv_same (st2 := [sv_i vu143, sv_r a]) (lv2 := [(0, sv_r a), (3, sv_i Jg133_s0), (4, sv_i Xg110_l4)]) rfl rfl ?_
              refine sv_pf C (index := 42) (ci := 5) (k := 0) (r := (RX6, TX6, 13)) (z := vu143) (by decide +kernel) (by rw [k_a]; rfl) rfl (by decide) rfl fl_X6_42 rfl (Or.inl rfl) ⟨by omega, by omega⟩ (hTA _ (by rw [k_a]; decide)) hok142 (fun hok153 => ?_)
              have hI155 := hIu143.up (a := a) (k := 0) (z := vu143) (by rw [k_a]; exact trivial)
              have hF156 := hGu143.up (a := a) (k := 0) (z := vu143) (Or.inr (by rw [k_a]; decide))
              generalize eσ154 : sv_up σ141 a 0 vu143 = σ154 at hok153 hI155 hF156 ⊢
              have t157 : σ154 t 1 = rt1 := by rw [← eσ154, sv_up_a (sv_ne k_t k_a (by decide))]; exact t144
              have t158 : σ154 a 2 = (t : Int) + 1 := by rw [← eσ154, sv_up_k (by decide)]; exact t145
              have t159 : σ154 a 3 = (cal : Int) + 1 := by rw [← eσ154, sv_up_k (by decide)]; exact t146
              have t160 : σ154 cal 0 = (v22 : Int) + 1 := by rw [← eσ154, sv_up_a (sv_ne k_cal k_a (by decide))]; exact t147
              have t161 : σ154 v22 (0 : Int).toNat = (v23 : Int) + 1 := by rw [← eσ154, sv_up_a (sv_ne kv22 k_a (by decide))]; exact t148
              have t162 : σ154 a 1 = (-1) := by rw [← eσ154, sv_up_k (by decide)]; exact t150
              have t163 : σ154 a 6 = wu120 := by rw [← eσ154, sv_up_k (by decide)]; exact t151
              have t164 : σ154 a 7 = v131 := by rw [← eσ154, sv_up_k (by decide)]; exact t152
              have t165 : σ154 a 5 = wu143_5 := by rw [← eσ154, sv_up_k (by decide)]; exact ewu143_5
              have t166 : σ154 cal 2 = wu143_2 := by rw [← eσ154, sv_up_a (sv_ne k_cal k_a (by decide))]; exact ewu143_2
              have t167 : σ154 a 4 = (fu143 : Int) + 1 := by rw [← eσ154, sv_up_k (by decide)]; exact efu143
              have t168 : σ154 a 0 = vu143 := by rw [← eσ154]; exact sv_up_s _ _ _ _
              refine sv_go C.1 C.2.1 [(.aload_n 0, 1)] (pc' := 104) (by decide +kernel) rfl (lv' := [(0, sv_r a), (3, sv_i Jg133_s0), (4, sv_i Xg110_l4)]) (st' := [sv_r a]) rfl ?_
              refine sv_gf C (index := 42) (ci := 5) (k := 0) (r := (RX6, TX6, 13)) (v := sv_i vu143) (by decide +kernel) (by rw [k_a]; rfl) rfl (by decide) fl_X6_42 (congrArg sv_i t168) ?_
              have J171 : ∀ (Jg170_s0 : Int), (0 ≤ Jg170_s0 ∧ Jg170_s0 ≤ 1) → sv_E p l e { frames := 8, cells := 0, slots := 0, locals := 169 } s m args below meth c 5 g A ty (fun r σ' => (∃ rv : Int, r = [sv_i rv] ∧ (0 ≤ rv ∧ rv ≤ 1)) ∧ sv_inv sp_1 ty σ' ∧ sv_ofx [(3, 0), (3, 1), (3, 2), (3, 3), (3, 4), (3, 5), (3, 6), (3, 7), (3, 8), (3, 9), (3, 10), (3, 11), (3, 12), (7, 2), (7, 3), (7, 4), (7, 5), (8, 0), (8, 1), (8, 2), (8, 3), (8, 4), (8, 5), (8, 6), (8, 7), (8, 8), (8, 9), (8, 10), (8, 11)] [23] ty σ σ') σ154 115 [(0, sv_r a), (4, sv_i Xg110_l4)] [sv_i Jg170_s0] := by
                intro Jg170_s0 hJg170_s0
                refine sv_go C.1 C.2.1 [(.istore_n 3, 1)] (pc' := 116) (by decide +kernel) rfl (lv' := [(0, sv_r a), (3, sv_i Jg170_s0), (4, sv_i Xg110_l4)]) (st' := []) rfl ?_
                exact J138 Jg170_s0 fu143 wu143_5 vu143 wu143_2 σ154 ⟨by omega, by omega⟩ kfu143 ⟨by omega, by omega⟩ ⟨by omega, by omega⟩ ⟨by omega, by omega⟩ hok153 hI155 hF156 t157 t158 t159 t160 t161 t167 t165 t168 t166 t162 t163 t164 (by omega) (by omega)
              refine sv_if C.1 C.2.1 (cnd := .ne) (off := 7) (tgt := 114) (by decide +kernel) (by decide) ⟨by omega, by omega⟩ (fun (h169 : vu143 ≠ 0) => ?_) (fun (h169 : ¬ (vu143 ≠ 0)) => ?_)
              · refine sv_go C.1 C.2.1 [(.iconst 0, 1)] (pc' := 115) (by decide +kernel) rfl (lv' := [(0, sv_r a), (3, sv_i Jg133_s0), (4, sv_i Xg110_l4)]) (st' := [sv_i 0]) rfl ?_
                refine sv_pick [0, 2] (lv2 := [(0, sv_r a), (4, sv_i Xg110_l4)]) rfl ?_
                exact J171 0 ⟨by omega, by omega⟩
              · refine sv_go C.1 C.2.1 [(.iconst 1, 1)] (pc' := 111) (by decide +kernel) rfl (lv' := [(0, sv_r a), (3, sv_i Jg133_s0), (4, sv_i Xg110_l4)]) (st' := [sv_i 1]) rfl ?_
                refine sv_goto C.1 C.2.1 (off := 4) (tgt := 115) (by decide +kernel) (by decide) ?_
                refine sv_pick [0, 2] (lv2 := [(0, sv_r a), (4, sv_i Xg110_l4)]) rfl ?_
                exact J171 1 ⟨by omega, by omega⟩
          refine sv_if C.1 C.2.1 (cnd := .ne) (off := 10) (tgt := 85) (by decide +kernel) (by decide) ⟨by omega, by omega⟩ (fun (h132 : v131 ≠ 0) => ?_) (fun (h132 : ¬ (v131 ≠ 0)) => ?_)
          · refine sv_go C.1 C.2.1 [(.iconst 1, 1)] (pc' := 86) (by decide +kernel) rfl (lv' := [(0, sv_r a), (3, sv_i Xg110_l3), (4, sv_i Xg110_l4)]) (st' := [sv_i 1]) rfl ?_
            refine sv_goto C.1 C.2.1 (off := 4) (tgt := 90) (by decide +kernel) (by decide) ?_
            refine sv_pick [0, 2] (lv2 := [(0, sv_r a), (4, sv_i Xg110_l4)]) rfl ?_
            exact J134 1 ⟨by omega, by omega⟩
          · refine sv_go C.1 C.2.1 [(.aload_n 0, 1)] (pc' := 79) (by decide +kernel) rfl (lv' := [(0, sv_r a), (3, sv_i Xg110_l3), (4, sv_i Xg110_l4)]) (st' := [sv_r a]) rfl ?_
            refine sv_gf C (index := 36) (ci := 5) (k := 5) (r := (RX6, TX6, 13)) (v := sv_i Xg110_fa_5) (by decide +kernel) (by rw [k_a]; rfl) rfl (by decide) fl_X6_36 (congrArg sv_i t127) ?_
            refine sv_if C.1 C.2.1 (cnd := .eq) (off := 7) (tgt := 89) (by decide +kernel) (by decide) ⟨by omega, by omega⟩ (fun (h172 : Xg110_fa_5 = 0) => ?_) (fun (h172 : ¬ (Xg110_fa_5 = 0)) => ?_)
            · refine sv_go C.1 C.2.1 [(.iconst 0, 1)] (pc' := 90) (by decide +kernel) rfl (lv' := [(0, sv_r a), (3, sv_i Xg110_l3), (4, sv_i Xg110_l4)]) (st' := [sv_i 0]) rfl ?_
              refine sv_pick [0, 2] (lv2 := [(0, sv_r a), (4, sv_i Xg110_l4)]) rfl ?_
              exact J134 0 ⟨by omega, by omega⟩
            · refine sv_go C.1 C.2.1 [(.iconst 1, 1)] (pc' := 86) (by decide +kernel) rfl (lv' := [(0, sv_r a), (3, sv_i Xg110_l3), (4, sv_i Xg110_l4)]) (st' := [sv_i 1]) rfl ?_
              refine sv_goto C.1 C.2.1 (off := 4) (tgt := 90) (by decide +kernel) (by decide) ?_
              refine sv_pick [0, 2] (lv2 := [(0, sv_r a), (4, sv_i Xg110_l4)]) rfl ?_
              exact J134 1 ⟨by omega, by omega⟩
  refine sv_pick [0, 3, 4] (lv2 := [(0, sv_r a), (3, sv_i 1), (4, sv_i 0)]) rfl ?_
  exact L112 (((4001 - 0 : Int)).toNat + 1) 1 0 v23 0 0 0 nc σ71 ⟨by omega, by omega⟩ ⟨by omega, by omega⟩ kv23 ⟨by omega, by omega⟩ ⟨by omega, by omega⟩ ⟨by omega, by omega⟩ ⟨by omega, by omega⟩ hok70 hI72 hF73 t74 t75 t76 t77 t78 t79 t80 t81 t82 t83 t84 (by omega) (by omega) (by omega)

theorem fl_X9_47 : Cond.fieldLink RX9 47 "SaintsRoad" "spare" "LSaintsRoad$Calendar;" ∈ lw_good := sv_mem 411 (by decide +kernel) rfl
theorem ml_X9_63 : Cond.methodLink RX9 63 yX6_readText ∈ lw_good := sv_mem 444 (by decide +kernel) rfl
theorem co_X6_readText : Cond.code yX6_readText cX6_readText 5 (some .boolean) ∈ lw_good := sv_mem 447 (by decide +kernel) rfl
theorem im_X6_readText : Cond.instanceMethod yX6_readText ∈ lw_good := sv_mem 445 (by decide +kernel) rfl
theorem se_X6_readText : Cond.selects RX6 yX6_readText yX6_readText ∈ lw_good := sv_mem 446 (by decide +kernel) rfl
theorem ml_X9_67 : Cond.methodLink RX9 67 yX4_exchange ∈ lw_good := sv_mem 618 (by decide +kernel) rfl
theorem co_X4_exchange : Cond.code yX4_exchange cX4_exchange 3 (some (.object "SaintsRoad$Calendar")) ∈ lw_good := sv_mem 621 (by decide +kernel) rfl
theorem im_X4_exchange : Cond.instanceMethod yX4_exchange ∈ lw_good := sv_mem 619 (by decide +kernel) rfl
theorem se_X4_exchange : Cond.selects RX4 yX4_exchange yX4_exchange ∈ lw_good := sv_mem 620 (by decide +kernel) rfl
set_option maxHeartbeats 4000000 in
set_option maxRecDepth 100000 in
theorem sf_X9_calendar (l : Launch) (g : sv_G) (A : Nat → Prop) (ty : Nat → Nat) (σ : Nat → Nat → Int) (hok : sv_ok ty σ) (hTA : ∀ q, ty q ≠ 0 → A q) (hI : sv_inv sp_1 ty σ) (a : Nat) (k_a : ty a = 1) (ar1 : Int) (h_ar1 : (-2147483648) ≤ ar1 ∧ ar1 ≤ 2147483647) : sv_M l yX9_calendar cX9_calendar 3 (some .int) { frames := 9, cells := 0, slots := 0, locals := 193 } g A ty σ [sv_r a, sv_i ar1] (fun r σ' => (∃ rv : Int, r = [sv_i rv] ∧ ((-2) ≤ rv ∧ rv ≤ 60)) ∧ sv_inv sp_1 ty σ' ∧ sv_ofx [(1, 5), (2, 1), (3, 0), (3, 1), (3, 2), (3, 3), (3, 4), (3, 5), (3, 6), (3, 7), (3, 8), (3, 9), (3, 10), (3, 11), (3, 12), (4, 2), (4, 10), (7, 2), (7, 3), (7, 4), (7, 5), (8, 0), (8, 1), (8, 2), (8, 3), (8, 4), (8, 5), (8, 6), (8, 7), (8, 8), (8, 9), (8, 10), (8, 11)] [23] ty σ σ') := by
  refine sv_enter (by decide) (Nat.le_of_ble_eq_true rfl) ?_
  intro p e s m args below meth c C hr
  have C : sv_C g A RX9 cX9_calendar 3 p s m args meth c := C
  have hr : meth.sig.returnType = (some .int) := hr
  have hF : sv_ofx [(1, 5), (2, 1), (3, 0), (3, 1), (3, 2), (3, 3), (3, 4), (3, 5), (3, 6), (3, 7), (3, 8), (3, 9), (3, 10), (3, 11), (3, 12), (4, 2), (4, 10), (7, 2), (7, 3), (7, 4), (7, 5), (8, 0), (8, 1), (8, 2), (8, 3), (8, 4), (8, 5), (8, 6), (8, 7), (8, 8), (8, 9), (8, 10), (8, 11)] [23] ty σ σ := sv_ofx.rf
  refine sv_same (st2 := []) (lv2 := [(0, sv_r a), (1, sv_i ar1)]) rfl rfl ?_
  refine sv_go C.1 C.2.1 [(.iload_n 1, 1)] (pc' := 1) (by decide +kernel) rfl (lv' := [(0, sv_r a), (1, sv_i ar1)]) (st' := [sv_i ar1]) rfl ?_
  refine sv_cs C (index := 59) (k := 1) (rest := []) (by decide +kernel) (sf_X9_isPlace l g A ty σ hok hTA hI (ar1) ⟨by omega, by omega⟩) ⟨co_X9_isPlace, in_X9, ⟨by decide, by decide, by decide +kernel⟩, Nat.le_of_ble_eq_true rfl, Nat.le_of_ble_eq_true rfl⟩ ml_X9_59 st_X9_isPlace rfl rfl (Nat.le_of_ble_eq_true rfl) ⟨Nat.zero_le _, Nat.zero_le _⟩ (fun r2 σ3 hpo1 hok4 => ?_)
  obtain ⟨rfl, ⟨vu5, rfl, hvu5, ivu5_0⟩⟩ := hpo1
  refine sv_same (st2 := [sv_i vu5]) (lv2 := [(0, sv_r a), (1, sv_i ar1)]) rfl rfl ?_
  refine sv_if C.1 C.2.1 (cnd := .ne) (off := 6) (tgt := 10) (by decide +kernel) (by decide) ⟨by omega, by omega⟩ (fun (h6 : vu5 ≠ 0) => ?_) (fun (h6 : ¬ (vu5 ≠ 0)) => ?_)
  · have hp7 := ivu5_0 (by omega) (by omega)
    refine sv_go C.1 C.2.1 [(.aload_n 0, 1)] (pc' := 11) (by decide +kernel) rfl (lv' := [(0, sv_r a), (1, sv_i ar1)]) (st' := [sv_r a]) rfl ?_
    obtain ⟨v8, ev8, kv8⟩ := hI.ref (k := 1) k_a rfl
    refine sv_gf C (index := 19) (ci := 8) (k := 1) (r := (RX9, TX9, 6)) (v := sv_r v8) (by decide +kernel) (by rw [k_a]; rfl) rfl (by decide) fl_X9_19 (congrArg sv_a ev8) ?_
    refine sv_go C.1 C.2.1 [(.aload_n 0, 1)] (pc' := 15) (by decide +kernel) rfl (lv' := [(0, sv_r a), (1, sv_i ar1)]) (st' := [sv_r a, sv_r v8]) rfl ?_
    obtain ⟨v9, ev9, kv9⟩ := hI.ref (k := 0) k_a rfl
    refine sv_gf C (index := 10) (ci := 8) (k := 0) (r := (RX9, TX9, 6)) (v := sv_r v9) (by decide +kernel) (by rw [k_a]; rfl) rfl (by decide) fl_X9_10 (congrArg sv_a ev9) ?_
    refine sv_go C.1 C.2.1 [(.aload_n 0, 1)] (pc' := 19) (by decide +kernel) rfl (lv' := [(0, sv_r a), (1, sv_i ar1)]) (st' := [sv_r a, sv_r v9, sv_r v8]) rfl ?_
    obtain ⟨v10, ev10, kv10⟩ := hI.ref (k := 5) k_a rfl
    refine sv_gf C (index := 47) (ci := 8) (k := 5) (r := (RX9, TX9, 6)) (v := sv_r v10) (by decide +kernel) (by rw [k_a]; rfl) rfl (by decide) fl_X9_47 (congrArg sv_a ev10) ?_
    refine sv_cv C (index := 63) (k := 2) (rest := []) (ci := 5) (r := (RX6, TX6, 13)) (by decide +kernel) (sf_X6_readText l g A ty σ hok4 hTA hI v8 kv8 v9 kv9 v10 kv10) ⟨co_X6_readText, in_X6, ⟨by decide, by decide, by decide +kernel⟩, Nat.le_of_ble_eq_true rfl, Nat.le_of_ble_eq_true rfl⟩ ml_X9_63 im_X6_readText se_X6_readText (by rw [kv8]; rfl) rfl rfl rfl (Nat.le_of_ble_eq_true rfl) ⟨Nat.zero_le _, Nat.zero_le _⟩ (fun r12 σ13 hpo11 hok14 => ?_)
    obtain ⟨⟨vu15, rfl, hvu15⟩, hIu15, hFu15⟩ := hpo11
    have hGu15 := hF.tr hFu15 (by decide) (by decide)
    have t16 : σ13 a 1 = (v8 : Int) + 1 := (hFu15.at k_a (by decide) (by decide)).trans ev8
    have t17 : σ13 a 0 = (v9 : Int) + 1 := (hFu15.at k_a (by decide) (by decide)).trans ev9
    have t18 : σ13 a 5 = (v10 : Int) + 1 := (hFu15.at k_a (by decide) (by decide)).trans ev10
    refine sv_same (st2 := [sv_i vu15]) (lv2 := [(0, sv_r a), (1, sv_i ar1)]) rfl rfl ?_
    refine sv_go C.1 C.2.1 [(.istore_n 2, 1), (.aload_n 0, 1)] (pc' := 27) (by decide +kernel) rfl (lv' := [(0, sv_r a), (1, sv_i ar1), (2, sv_i vu15)]) (st' := [sv_r a]) rfl ?_
    refine sv_gf C (index := 10) (ci := 8) (k := 0) (r := (RX9, TX9, 6)) (v := sv_r v9) (by decide +kernel) (by rw [k_a]; rfl) rfl (by decide) fl_X9_10 (congrArg sv_a t17) ?_
    refine sv_go C.1 C.2.1 [(.iconst 0, 1)] (pc' := 31) (by decide +kernel) rfl (lv' := [(0, sv_r a), (1, sv_i ar1), (2, sv_i vu15)]) (st' := [sv_i 0, sv_r v9]) rfl ?_
    refine sv_pf C (index := 51) (ci := 6) (k := 1) (r := (RX7, TX7, 2)) (z := 0) (by decide +kernel) (by rw [kv9]; rfl) rfl (by decide) rfl fl_X9_51 rfl (Or.inl rfl) ⟨by omega, by omega⟩ (hTA _ (by rw [kv9]; decide)) hok14 (fun hok19 => ?_)
    have hI21 := hIu15.up (a := v9) (k := 1) (z := 0) (by rw [kv9]; exact ⟨by omega, by omega⟩)
    have hF22 := hGu15.up (a := v9) (k := 1) (z := 0) (Or.inr (by rw [kv9]; decide))
    generalize eσ20 : sv_up σ13 v9 1 0 = σ20 at hok19 hI21 hF22 ⊢
    have t23 : σ20 a 1 = (v8 : Int) + 1 := by rw [← eσ20, sv_up_a (sv_ne k_a kv9 (by decide))]; exact t16
    have t24 : σ20 a 0 = (v9 : Int) + 1 := by rw [← eσ20, sv_up_a (sv_ne k_a kv9 (by decide))]; exact t17
    have t25 : σ20 a 5 = (v10 : Int) + 1 := by rw [← eσ20, sv_up_a (sv_ne k_a kv9 (by decide))]; exact t18
    have t26 : σ20 v9 1 = 0 := by rw [← eσ20]; exact sv_up_s _ _ _ _
    refine sv_go C.1 C.2.1 [(.iload_n 2, 1)] (pc' := 35) (by decide +kernel) rfl (lv' := [(0, sv_r a), (1, sv_i ar1), (2, sv_i vu15)]) (st' := [sv_i vu15]) rfl ?_
    refine sv_if C.1 C.2.1 (cnd := .ne) (off := 5) (tgt := 40) (by decide +kernel) (by decide) ⟨by omega, by omega⟩ (fun (h27 : vu15 ≠ 0) => ?_) (fun (h27 : ¬ (vu15 ≠ 0)) => ?_)
    · refine sv_go C.1 C.2.1 [(.aload_n 0, 1), (.aload_n 0, 1)] (pc' := 42) (by decide +kernel) rfl (lv' := [(0, sv_r a), (1, sv_i ar1), (2, sv_i vu15)]) (st' := [sv_r a, sv_r a]) rfl ?_
      obtain ⟨v28, ev28, kv28⟩ := hI21.ref (k := 2) k_a rfl
      refine sv_gf C (index := 25) (ci := 8) (k := 2) (r := (RX9, TX9, 6)) (v := sv_r v28) (by decide +kernel) (by rw [k_a]; rfl) rfl (by decide) fl_X9_25 (congrArg sv_a ev28) ?_
      refine sv_go C.1 C.2.1 [(.iload_n 1, 1)] (pc' := 46) (by decide +kernel) rfl (lv' := [(0, sv_r a), (1, sv_i ar1), (2, sv_i vu15)]) (st' := [sv_i ar1, sv_r v28, sv_r a]) rfl ?_
      refine sv_aa C (N := "SaintsRoad$Place") (by decide) (n := 4) (by decide +kernel) (by rw [kv28]; rfl) (by decide) (by omega) (by omega) ?_
      obtain ⟨v29, ev29, kv29⟩ := hI21.ref (k := (ar1 : Int).toNat) kv28 (by first | rfl | (show (if _ then _ else _) = _; rw [if_pos (by omega)]))
      rw [ev29]
      refine sv_go C.1 C.2.1 [(.aload_n 0, 1)] (pc' := 48) (by decide +kernel) rfl (lv' := [(0, sv_r a), (1, sv_i ar1), (2, sv_i vu15)]) (st' := [sv_r a, sv_r v29, sv_r a]) rfl ?_
      refine sv_gf C (index := 47) (ci := 8) (k := 5) (r := (RX9, TX9, 6)) (v := sv_r v10) (by decide +kernel) (by rw [k_a]; rfl) rfl (by decide) fl_X9_47 (congrArg sv_a t25) ?_
      refine sv_cv C (index := 67) (k := 1) (rest := [sv_r a]) (ci := 3) (r := (RX4, TX4, 11)) (by decide +kernel) (sf_X4_exchange l g A ty σ20 hok19 hTA hI21 v29 kv29 v10 kv10) ⟨co_X4_exchange, in_X4, ⟨by decide, by decide, by decide +kernel⟩, Nat.le_of_ble_eq_true rfl, Nat.le_of_ble_eq_true rfl⟩ ml_X9_67 im_X4_exchange se_X4_exchange (by rw [kv29]; rfl) rfl rfl rfl (Nat.le_of_ble_eq_true rfl) ⟨Nat.zero_le _, Nat.zero_le _⟩ (fun r31 σ32 hpo30 hok33 => ?_)
      obtain ⟨⟨qu34, rfl, kqu34⟩, hIu34, hFu34⟩ := hpo30
      have hGu34 := hF22.tr hFu34 (by decide) (by decide)
      have t35 : σ32 a 1 = (v8 : Int) + 1 := (hFu34.at k_a (by decide) (by decide)).trans t23
      have t36 : σ32 a 0 = (v9 : Int) + 1 := (hFu34.at k_a (by decide) (by decide)).trans t24
      have t37 : σ32 a 5 = (v10 : Int) + 1 := (hFu34.at k_a (by decide) (by decide)).trans t25
      have t38 : σ32 v9 1 = 0 := (hFu34.at kv9 (by decide) (by decide)).trans t26
      have t39 : σ32 a 2 = (v28 : Int) + 1 := (hFu34.at k_a (by decide) (by decide)).trans ev28
      have t40 : σ32 v28 (ar1 : Int).toNat = (v29 : Int) + 1 := (hFu34.atA kv28 (by decide) (by decide)).trans ev29
      refine sv_same (st2 := [sv_r qu34, sv_r a]) (lv2 := [(0, sv_r a), (1, sv_i ar1), (2, sv_i vu15)]) rfl rfl ?_
      refine sv_pf C (index := 47) (ci := 8) (k := 5) (r := (RX9, TX9, 6)) (z := (qu34 : Int) + 1) (by decide +kernel) (by rw [k_a]; rfl) rfl (by decide) rfl fl_X9_47 rfl (Or.inr (Or.inr (Or.inr (Or.inr (Or.inl ⟨_, rfl⟩))))) (show (0 : Int) ≤ _ by omega) (hTA _ (by rw [k_a]; decide)) hok33 (fun hok41 => ?_)
      have hI43 := hIu34.up (a := a) (k := 5) (z := (qu34 : Int) + 1) (by rw [k_a]; exact Or.inr ⟨_, rfl, kqu34⟩)
      have hF44 := hGu34.up (a := a) (k := 5) (z := (qu34 : Int) + 1) (Or.inr (by rw [k_a]; decide))
      generalize eσ42 : sv_up σ32 a 5 ((qu34 : Int) + 1) = σ42 at hok41 hI43 hF44 ⊢
      have t45 : σ42 a 1 = (v8 : Int) + 1 := by rw [← eσ42, sv_up_k (by decide)]; exact t35
      have t46 : σ42 a 0 = (v9 : Int) + 1 := by rw [← eσ42, sv_up_k (by decide)]; exact t36
      have t47 : σ42 v9 1 = 0 := by rw [← eσ42, sv_up_a (sv_ne kv9 k_a (by decide))]; exact t38
      have t48 : σ42 a 2 = (v28 : Int) + 1 := by rw [← eσ42, sv_up_k (by decide)]; exact t39
      have t49 : σ42 v28 (ar1 : Int).toNat = (v29 : Int) + 1 := by rw [← eσ42, sv_up_a (sv_ne kv28 k_a (by decide))]; exact t40
      have t50 : σ42 a 5 = (qu34 : Int) + 1 := by rw [← eσ42]; exact sv_up_s _ _ _ _
      refine sv_go C.1 C.2.1 [(.aload_n 0, 1)] (pc' := 58) (by decide +kernel) rfl (lv' := [(0, sv_r a), (1, sv_i ar1), (2, sv_i vu15)]) (st' := [sv_r a]) rfl ?_
      refine sv_gf C (index := 25) (ci := 8) (k := 2) (r := (RX9, TX9, 6)) (v := sv_r v28) (by decide +kernel) (by rw [k_a]; rfl) rfl (by decide) fl_X9_25 (congrArg sv_a t48) ?_
      refine sv_go C.1 C.2.1 [(.iload_n 1, 1)] (pc' := 62) (by decide +kernel) rfl (lv' := [(0, sv_r a), (1, sv_i ar1), (2, sv_i vu15)]) (st' := [sv_i ar1, sv_r v28]) rfl ?_
      refine sv_aa C (N := "SaintsRoad$Place") (by decide) (n := 4) (by decide +kernel) (by rw [kv28]; rfl) (by decide) (by omega) (by omega) ?_
      rw [t49]
      obtain ⟨v51, ev51, kv51⟩ := hI43.ref (k := 2) kv29 rfl
      refine sv_gf C (index := 71) (ci := 3) (k := 2) (r := (RX4, TX4, 11)) (v := sv_r v51) (by decide +kernel) (by rw [kv29]; rfl) rfl (by decide) fl_X9_71 (congrArg sv_a ev51) ?_
      obtain ⟨v52, ev52, hv52⟩ := sv_rdn hI43 (k := 2) kv51 rfl
      refine sv_gf C (index := 74) (ci := 1) (k := 2) (r := (RX1, TX1, 6)) (v := sv_i v52) (by decide +kernel) (by rw [kv51]; rfl) rfl (by decide) fl_X9_74 (congrArg sv_i ev52) ?_
      exact sv_iret C hr (by decide +kernel) hok41 (⟨⟨_, rfl, ⟨by omega, by omega⟩⟩, hI43, hF44⟩)
    · refine sv_go C.1 C.2.1 [(.iconst (-1), 1)] (pc' := 39) (by decide +kernel) rfl (lv' := [(0, sv_r a), (1, sv_i ar1), (2, sv_i vu15)]) (st' := [sv_i ((-1))]) rfl ?_
      exact sv_iret C hr (by decide +kernel) hok19 (⟨⟨_, rfl, ⟨by omega, by omega⟩⟩, hI21, hF22⟩)
  · refine sv_go C.1 C.2.1 [(.bipush (-2), 2)] (pc' := 9) (by decide +kernel) rfl (lv' := [(0, sv_r a), (1, sv_i ar1)]) (st' := [sv_i ((-2))]) rfl ?_
    exact sv_iret C hr (by decide +kernel) hok4 (⟨⟨_, rfl, ⟨by omega, by omega⟩⟩, hI, hF⟩)
