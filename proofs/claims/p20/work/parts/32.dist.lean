/-! constructors, with what they leave apart -/
set_option maxHeartbeats 4000000 in
set_option maxRecDepth 100000 in
theorem ct_X5_init2 (l : Launch) (g : sv_G) (A : Nat → Prop) (a : Nat) (ty : Nat → Nat) (σ : Nat → Nat → Int) (hT : sv_TT A ty) (hok : sv_ok ty σ) (ha : ty a = 9) (hz : ∀ k, σ a k = 0) : sv_NN l yX5_init cX5_init 1 1 12 2 24 g A ty σ [sv_r a] (fun ty' σ' => sv_po A a 9 ty σ ty' σ' ∧ zd_5 a ty σ ty' σ') := by
  refine sv_enterN (by decide) (Nat.le_of_ble_eq_true rfl) ?_
  intro p e s m args below meth c C J hr hin
  have C : sv_C g A RX5 cX5_init 1 p s m args meth c := C
  have hin : meth.name = "<init>" := hin
  have G0 := sv_S.start hT hok ha (by decide) hz
  refine sv_same (st2 := []) (lv2 := [(0, sv_r a)]) rfl rfl ?_
  refine sv_go C.1 C.2.1 [(.aload_n 0, 1)] (pc' := 1) (by decide +kernel) rfl (lv' := [(0, sv_r a)]) (st' := [sv_r a]) rfl ?_
  refine sv_oin C (by decide +kernel) nw_ml_X5_3 nw_oi nw_oc (by decide) (by decide) ?_
  refine sv_go C.1 C.2.1 [(.aload_n 0, 1), (.bipush 12, 2)] (pc' := 7) (by decide +kernel) rfl (lv' := [(0, sv_r a)]) (st' := [sv_i 12, sv_r a]) rfl ?_
  refine sv_newaG C J G0 (Kq := 40) (N := 12) (t := .int) (atype := .int) (by decide +kernel) rfl (by simp) rfl rfl (by decide) nw_a_int (by decide) (fun _ => rfl) (Nat.le_of_ble_eq_true rfl) (Nat.le_of_ble_eq_true rfl) fun q1 ty2 σ3 G4 h05 hq6 hk7 => ?_
  refine sv_pfG C hin G4 (z := ((q1 : Int) + 1)) (k := 2) (by decide +kernel) rfl (r := (RX5, TX5, 5)) rfl (by decide) rfl nw_fl_X5_9 rfl (by show (0 : Int) ≤ _; omega) (by decide) (by decide) ⟨Or.inr ⟨q1, rfl, hq6⟩, trivial⟩ fun G8 => ?_
  generalize eσ9 : (sv_up σ3 a 2 ((q1 : Int) + 1)) = σ9 at G8 ⊢
  have zp1 : σ9 a 2 = (q1 : Int) + 1 := by rw [← eσ9]; exact sv_up_s _ _ _ _
  refine sv_go C.1 C.2.1 [(.aload_n 0, 1), (.bipush 12, 2)] (pc' := 15) (by decide +kernel) rfl (lv' := [(0, sv_r a)]) (st' := [sv_i 12, sv_r a]) rfl ?_
  refine sv_newaG C J G8 (Kq := 41) (N := 12) (t := .int) (atype := .int) (by decide +kernel) rfl (by simp) rfl rfl (by decide) nw_a_int (by decide) (fun _ => rfl) (Nat.le_of_ble_eq_true rfl) (Nat.le_of_ble_eq_true rfl) fun q10 ty11 σ12 G13 h014 hq15 hk16 => ?_
  have zp2 : σ12 a 2 = (q1 : Int) + 1 := by rw [(hk16 a G8.nza).2]; exact zp1
  have zt1 : ty11 q1 = 40 := by rw [(hk16 q1 (by rw [hq6]; decide)).1]; exact hq6
  refine sv_pfG C hin G13 (z := ((q10 : Int) + 1)) (k := 3) (by decide +kernel) rfl (r := (RX5, TX5, 5)) rfl (by decide) rfl nw_fl_X5_15 rfl (by show (0 : Int) ≤ _; omega) (by decide) (by decide) ⟨Or.inr ⟨q10, rfl, hq15⟩, trivial⟩ fun G17 => ?_
  generalize eσ18 : (sv_up σ12 a 3 ((q10 : Int) + 1)) = σ18 at G17 ⊢
  exact sv_nret C hr (by decide +kernel) rfl rfl ⟨G17.done (sv_zend (by decide) (fun _ => rfl)), q1, q10, by rw [← eσ18, sv_up_k (by decide)]; exact zp2, h05, zt1, by rw [← eσ18]; exact sv_up_s _ _ _ _, h014, hq15⟩

set_option maxHeartbeats 4000000 in
set_option maxRecDepth 100000 in
theorem ct_X8_init2 (l : Launch) (g : sv_G) (A : Nat → Prop) (a : Nat) (ty : Nat → Nat) (σ : Nat → Nat → Int) (hT : sv_TT A ty) (hok : sv_ok ty σ) (ha : ty a = 6) (hz : ∀ k, σ a k = 0) : sv_NN l yX8_init cX8_init 2 2 32 39 2202 g A ty σ [sv_r a] (fun ty' σ' => sv_po A a 6 ty σ ty' σ' ∧ zd_8 a ty σ ty' σ') := by
  refine sv_enterN (by decide) (Nat.le_of_ble_eq_true rfl) ?_
  intro p e s m args below meth c C J hr hin
  have C : sv_C g A RX8 cX8_init 2 p s m args meth c := C
  have hin : meth.name = "<init>" := hin
  have G0 := sv_S.start hT hok ha (by decide) hz
  refine sv_same (st2 := []) (lv2 := [(0, sv_r a)]) rfl rfl ?_
  refine sv_go C.1 C.2.1 [(.aload_n 0, 1)] (pc' := 1) (by decide +kernel) rfl (lv' := [(0, sv_r a)]) (st' := [sv_r a]) rfl ?_
  refine sv_oin C (by decide +kernel) nw_ml_X8_3 nw_oi nw_oc (by decide) (by decide) ?_
  refine sv_go C.1 C.2.1 [(.aload_n 0, 1), (.bipush 12, 2)] (pc' := 7) (by decide +kernel) rfl (lv' := [(0, sv_r a)]) (st' := [sv_i 12, sv_r a]) rfl ?_
  refine sv_anewG C J G0 (Kq := 37) (Nn := 12) (N := RX5) (by decide) (by decide +kernel) rfl rfl (by decide) nw_kl_X8_9 (by decide) (Nat.le_of_ble_eq_true rfl) (Nat.le_of_ble_eq_true rfl) fun q1 ty2 σ3 G4 h05 hq6 hf7 hne8 => ?_
  refine sv_pfG C hin G4 (z := ((q1 : Int) + 1)) (k := 0) (by decide +kernel) rfl (r := (RX8, TX8, 4)) rfl (by decide) rfl nw_fl_X8_11 rfl (by show (0 : Int) ≤ _; omega) (by decide) (by decide) ⟨Or.inr ⟨q1, rfl, hq6⟩, trivial⟩ fun G9 => ?_
  have B11 : sv_b ty2 (sv_up σ3 a 0 ((q1 : Int) + 1)) a q1 0 37 0 := ⟨hq6, by rw [sv_up_row hne8]; exact hf7, sv_up_s _ _ _ _, hne8⟩
  generalize eσ10 : (sv_up σ3 a 0 ((q1 : Int) + 1)) = σ10 at G9 B11 ⊢
  clear eσ10
  refine sv_go C.1 C.2.1 [(.aload_n 0, 1), (.sipush 400, 3)] (pc' := 17) (by decide +kernel) rfl (lv' := [(0, sv_r a)]) (st' := [sv_i 400, sv_r a]) rfl ?_
  refine sv_newaG C J G9 (Kq := 38) (N := 400) (t := .int) (atype := .int) (by decide +kernel) rfl (by simp) rfl rfl (by decide) nw_a_int (by decide) (fun _ => rfl) (Nat.le_of_ble_eq_true rfl) (Nat.le_of_ble_eq_true rfl) fun q12 ty13 σ14 G15 h016 hq17 hk18 => ?_
  have B19 := B11.kp (by decide) G9.nza hk18
  refine sv_pfG C hin G15 (z := ((q12 : Int) + 1)) (k := 2) (by decide +kernel) rfl (r := (RX8, TX8, 4)) rfl (by decide) rfl nw_fl_X8_17 rfl (by show (0 : Int) ≤ _; omega) (by decide) (by decide) ⟨Or.inr ⟨q12, rfl, hq17⟩, trivial⟩ fun G20 => ?_
  have B22 : sv_b ty13 (sv_up σ14 a 2 ((q12 : Int) + 1)) a q1 0 37 0 := B19.up (by decide)
  generalize eσ21 : (sv_up σ14 a 2 ((q12 : Int) + 1)) = σ21 at G20 B22 ⊢
  clear eσ21
  refine sv_go C.1 C.2.1 [(.aload_n 0, 1), (.sipush 1442, 3)] (pc' := 26) (by decide +kernel) rfl (lv' := [(0, sv_r a)]) (st' := [sv_i 1442, sv_r a]) rfl ?_
  refine sv_newaG C J G20 (Kq := 39) (N := 1442) (t := .int) (atype := .int) (by decide +kernel) rfl (by simp) rfl rfl (by decide) nw_a_int (by decide) (fun _ => rfl) (Nat.le_of_ble_eq_true rfl) (Nat.le_of_ble_eq_true rfl) fun q23 ty24 σ25 G26 h027 hq28 hk29 => ?_
  have B30 := B22.kp (by decide) G20.nza hk29
  refine sv_pfG C hin G26 (z := ((q23 : Int) + 1)) (k := 3) (by decide +kernel) rfl (r := (RX8, TX8, 4)) rfl (by decide) rfl nw_fl_X8_21 rfl (by show (0 : Int) ≤ _; omega) (by decide) (by decide) ⟨Or.inr ⟨q23, rfl, hq28⟩, trivial⟩ fun G31 => ?_
  have B33 : sv_b ty24 (sv_up σ25 a 3 ((q23 : Int) + 1)) a q1 0 37 0 := B30.up (by decide)
  generalize eσ32 : (sv_up σ25 a 3 ((q23 : Int) + 1)) = σ32 at G31 B33 ⊢
  clear eσ32
  refine sv_go C.1 C.2.1 [(.iconst 0, 1), (.istore_n 1, 1)] (pc' := 33) (by decide +kernel) rfl (lv' := [(0, sv_r a), (1, sv_i 0)]) (st' := []) rfl ?_
  have L : ∀ (j i : Nat) (ty2 : Nat → Nat) (σ2 : Nat → Nat → Int), i ≤ 12 → sv_S A a 6 4 (fun x => x = q1) ty σ ty2 σ2 → sv_b ty2 σ2 a q1 0 37 i → zd_D ty2 σ2 q1 i → 12 - i < j → sv_V p l e { frames := 2, cells := 39, slots := 2202, locals := 32 } s m args below meth c 2 A (0 + 1 + 1 + 1 + i * 3) (0 + 12 + 400 + 1442 + i * 29) (MQ below (sv_QN g A (fun ty' σ' => sv_po A a 6 ty σ ty' σ' ∧ zd_8 a ty σ ty' σ')) args s 39 2202 A) (sv_H g ty2 σ2) 33 [(0, sv_r a), (1, sv_i ((i : Int)))] [] := by
    intro j
    induction j with
    | zero => intro i ty2 σ2 _ _ _ _ hj; exact absurd hj (by omega)
    | succ j ih =>
      intro i ty2 σ2 hi G B D hj
      refine sv_go C.1 C.2.1 [(.iload_n 1, 1), (.bipush 12, 2)] (pc' := 36) (by decide +kernel) rfl (lv' := [(0, sv_r a), (1, sv_i ((i : Int)))]) (st' := [sv_i 12, sv_i ((i : Int))]) rfl ?_
      refine sv_icmp C.1 C.2.1 (cnd := .ge) (off := 22) (by decide +kernel) (tgt := 58) rfl ⟨by omega, by omega⟩ ⟨by omega, by omega⟩ (fun hc => ?_) (fun hc => ?_)
      · have hi2 : i = 12 := by simp only [sv_cmp] at hc; omega
        subst hi2
        have Gc := G.close h05 (by rw [B.1]; exact B.2.1.done sv_zz37)
        refine sv_cnteq (cells' := 39) (slots' := 2202) (by omega) (by omega) ?_
        exact sv_nret C hr (by decide +kernel) rfl rfl ⟨Gc.done (sv_zend (by decide) (fun _ => rfl)), q1, B.2.2.1, B.1, D⟩
      · have hi2 : i < 12 := by simp only [sv_cmp] at hc; omega
        refine sv_go C.1 C.2.1 [(.aload_n 0, 1)] (pc' := 40) (by decide +kernel) rfl (lv' := [(0, sv_r a), (1, sv_i ((i : Int)))]) (st' := [sv_r a]) rfl ?_
        refine sv_gf C (a := a) (ci := 7) (k := 0) (r := (RX8, TX8, 4)) (v := sv_r q1) (by decide +kernel) (by rw [G.2.1]; rfl) rfl (by decide) nw_fl_X8_11 (by rw [B.2.2.1]; rfl) ?_
        refine sv_go C.1 C.2.1 [(.iload_n 1, 1)] (pc' := 44) (by decide +kernel) rfl (lv' := [(0, sv_r a), (1, sv_i ((i : Int)))]) (st' := [sv_i ((i : Int)), sv_r q1]) rfl ?_
        refine sv_ninit2 (E := zd_5) C J G (Kq := 9) (mc := 2) (ms := 24) (NF := 5) (r := (RX5, TX5, 5)) rfl (by decide +kernel) (by decide +kernel) rfl rfl nw_kl_X8_9 nw_ns_X5 nw_in_X5 (by decide) (show 0 + 1 + 1 + 1 + i * 3 + 1 ≤ 39 by omega) (show 0 + 12 + 400 + 1442 + i * 29 + 5 ≤ 2202 by omega) (fun q ty1 σ1 t1 t2 t3 t4 kk => ?_) fun q34 ty35 σ36 G37 hq38 hk39 hz0 hzE => ?_
        · exact sv_ciN C J (a := q) (as := []) (k := 0) (by decide +kernel) (ct_X5_init2 l g A q ty1 σ1 t1 t2 t3 t4) ⟨nw_co_X5_init, nw_in_X5, by decide +kernel, by decide, by decide⟩ nw_ml_X8_24 nw_im_X5_init rfl rfl rfl (Nat.le_of_ble_eq_true rfl) ⟨(show 0 + 1 + 1 + 1 + i * 3 + 1 + 2 ≤ 39 by omega), (show 0 + 12 + 400 + 1442 + i * 29 + 5 + 24 ≤ 2202 by omega)⟩ kk
        have B40 := B.kp (by decide) G.nza hk39
        refine sv_asG2 C G37 B40 (r := (RX5, TX5, 5)) (N := 12) (ci := 4) (Kq := 9) (by decide) (by decide +kernel) rfl rfl hq38 rfl (by decide) hi2 (sp_1_37 hi2) (sp_0_37 i) fun σ41 G42 B43 hr44 hzs => ?_
        refine sv_go C.1 C.2.1 [(.iinc 1 1, 3)] (pc' := 55) (by decide +kernel) rfl (lv' := [(0, sv_r a), (1, sv_i (((i : Int)) + 1))]) (st' := []) rfl ?_
        refine sv_goto C.1 C.2.1 (off := -22) (by decide +kernel) (tgt := 33) rfl ?_
        refine sv_cnteq (cells' := 0 + 1 + 1 + 1 + (i + 1) * 3) (slots' := 0 + 12 + 400 + 1442 + (i + 1) * 29) (by omega) (by omega) ?_
        refine sv_same (st2 := []) (lv2 := [(0, sv_r a), (1, sv_i ((i + 1 : Nat) : Int))]) rfl rfl ?_
        exact ih (i + 1) ty35 σ41 (by omega) G42 B43 (zd_step B.1 hk39 hz0 hq38 hzE hzs D) (by omega)
  refine sv_cnteq (cells' := 0 + 1 + 1 + 1 + 0 * 3) (slots' := 0 + 12 + 400 + 1442 + 0 * 29) (by omega) (by omega) ?_
  refine sv_same (st2 := []) (lv2 := [(0, sv_r a), (1, sv_i ((0 : Nat) : Int))]) rfl rfl ?_
  exact L 13 0 ty24 σ32 (by omega) G31 B33 ⟨fun j hj => absurd hj (Nat.not_lt_zero j), fun j k hj => absurd hj (Nat.not_lt_zero j)⟩ (by omega)

set_option maxHeartbeats 4000000 in
set_option maxRecDepth 100000 in
theorem ct_X9_init2 (l : Launch) (g : sv_G) (A : Nat → Prop) (a : Nat) (ty : Nat → Nat) (σ : Nat → Nat → Int) (hT : sv_TT A ty) (hok : sv_ok ty σ) (ha : ty a = 1) (hz : ∀ k, σ a k = 0) : sv_NN l yX9_init cX9_init 2 4 73 395 15350 g A ty σ [sv_r a] (fun ty' σ' => sv_po A a 1 ty σ ty' σ' ∧ zd_9 a ty σ ty' σ') := by
  refine sv_enterN (by decide) (Nat.le_of_ble_eq_true rfl) ?_
  intro p e s m args below meth c C J hr hin
  have C : sv_C g A RX9 cX9_init 2 p s m args meth c := C
  have hin : meth.name = "<init>" := hin
  have G0 := sv_S.start hT hok ha (by decide) hz
  refine sv_same (st2 := []) (lv2 := [(0, sv_r a)]) rfl rfl ?_
  refine sv_go C.1 C.2.1 [(.aload_n 0, 1)] (pc' := 1) (by decide +kernel) rfl (lv' := [(0, sv_r a)]) (st' := [sv_r a]) rfl ?_
  refine sv_oin C (by decide +kernel) nw_ml_X9_1 nw_oi nw_oc (by decide) (by decide) ?_
  refine sv_go C.1 C.2.1 [(.aload_n 0, 1)] (pc' := 5) (by decide +kernel) rfl (lv' := [(0, sv_r a)]) (st' := [sv_r a]) rfl ?_
  refine sv_ninit C J G0 (Kq := 2) (mc := 1) (ms := 4000) (NF := 2) (r := (RX7, TX7, 2)) rfl (by decide +kernel) (by decide +kernel) rfl rfl nw_kl_X9_7 nw_ns_X7 nw_in_X7 (by decide) (Nat.le_of_ble_eq_true rfl) (Nat.le_of_ble_eq_true rfl) (fun q ty1 σ1 t1 t2 t3 t4 kk => ?_) fun q1 ty2 σ3 G4 hq5 hk6 => ?_
  · exact sv_ciN C J (a := q) (as := []) (k := 0) (by decide +kernel) (ct_X7_init l g A q ty1 σ1 t1 t2 t3 t4) ⟨nw_co_X7_init, nw_in_X7, by decide +kernel, by decide, by decide⟩ nw_ml_X9_9 nw_im_X7_init rfl rfl rfl (Nat.le_of_ble_eq_true rfl) ⟨(Nat.le_of_ble_eq_true rfl), (Nat.le_of_ble_eq_true rfl)⟩ kk
  refine sv_pfG C hin G4 (z := ((q1 : Int) + 1)) (k := 0) (by decide +kernel) rfl (r := (RX9, TX9, 6)) rfl (by decide) rfl nw_fl_X9_10 rfl (by show (0 : Int) ≤ _; omega) (by decide) (by decide) ⟨Or.inr ⟨q1, rfl, hq5⟩, trivial⟩ fun G7 => ?_
  generalize eσ8 : (sv_up σ3 a 0 ((q1 : Int) + 1)) = σ8 at G7 ⊢
  clear eσ8
  refine sv_go C.1 C.2.1 [(.aload_n 0, 1)] (pc' := 16) (by decide +kernel) rfl (lv' := [(0, sv_r a)]) (st' := [sv_r a]) rfl ?_
  refine sv_ninit C J G7 (Kq := 3) (mc := 0) (ms := 0) (NF := 13) (r := (RX6, TX6, 13)) rfl (by decide +kernel) (by decide +kernel) rfl rfl nw_kl_X9_16 nw_ns_X6 nw_in_X6 (by decide) (Nat.le_of_ble_eq_true rfl) (Nat.le_of_ble_eq_true rfl) (fun q ty1 σ1 t1 t2 t3 t4 kk => ?_) fun q9 ty10 σ11 G12 hq13 hk14 => ?_
  · exact sv_ciN C J (a := q) (as := []) (k := 0) (by decide +kernel) (ct_X6_init l g A q ty1 σ1 t1 t2 t3 t4) ⟨nw_co_X6_init, nw_in_X6, by decide +kernel, by decide, by decide⟩ nw_ml_X9_18 nw_im_X6_init rfl rfl rfl (Nat.le_of_ble_eq_true rfl) ⟨(Nat.le_of_ble_eq_true rfl), (Nat.le_of_ble_eq_true rfl)⟩ kk
  refine sv_pfG C hin G12 (z := ((q9 : Int) + 1)) (k := 1) (by decide +kernel) rfl (r := (RX9, TX9, 6)) rfl (by decide) rfl nw_fl_X9_19 rfl (by show (0 : Int) ≤ _; omega) (by decide) (by decide) ⟨Or.inr ⟨q9, rfl, hq13⟩, trivial⟩ fun G15 => ?_
  generalize eσ16 : (sv_up σ11 a 1 ((q9 : Int) + 1)) = σ16 at G15 ⊢
  clear eσ16
  refine sv_go C.1 C.2.1 [(.aload_n 0, 1), (.iconst 4, 1)] (pc' := 28) (by decide +kernel) rfl (lv' := [(0, sv_r a)]) (st' := [sv_i 4, sv_r a]) rfl ?_
  refine sv_anewG C J G15 (Kq := 21) (Nn := 4) (N := RX4) (by decide) (by decide +kernel) rfl rfl (by decide) nw_kl_X9_23 (by decide) (Nat.le_of_ble_eq_true rfl) (Nat.le_of_ble_eq_true rfl) fun q17 ty18 σ19 G20 h021 hq22 hf23 hne24 => ?_
  refine sv_pfG C hin G20 (z := ((q17 : Int) + 1)) (k := 2) (by decide +kernel) rfl (r := (RX9, TX9, 6)) rfl (by decide) rfl nw_fl_X9_25 rfl (by show (0 : Int) ≤ _; omega) (by decide) (by decide) ⟨Or.inr ⟨q17, rfl, hq22⟩, trivial⟩ fun G25 => ?_
  have B27 : sv_b ty18 (sv_up σ19 a 2 ((q17 : Int) + 1)) a q17 2 21 0 := ⟨hq22, by rw [sv_up_row hne24]; exact hf23, sv_up_s _ _ _ _, hne24⟩
  generalize eσ26 : (sv_up σ19 a 2 ((q17 : Int) + 1)) = σ26 at G25 B27 ⊢
  clear eσ26
  refine sv_go C.1 C.2.1 [(.iconst 0, 1), (.istore_n 1, 1)] (pc' := 36) (by decide +kernel) rfl (lv' := [(0, sv_r a), (1, sv_i 0)]) (st' := []) rfl ?_
  have L : ∀ (j i : Nat) (ty2 : Nat → Nat) (σ2 : Nat → Nat → Int), i ≤ 4 → sv_S A a 1 3 (fun x => x = q17) ty σ ty2 σ2 → sv_b ty2 σ2 a q17 2 21 i → 4 - i < j → sv_V p l e { frames := 4, cells := 395, slots := 15350, locals := 73 } s m args below meth c 2 A (0 + 1 + 1 + 1 + 0 + 1 + i * 70) (0 + 2 + 4000 + 13 + 0 + 4 + i * 1472) (MQ below (sv_QN g A (fun ty' σ' => sv_po A a 1 ty σ ty' σ' ∧ zd_9 a ty σ ty' σ')) args s 395 15350 A) (sv_H g ty2 σ2) 36 [(0, sv_r a), (1, sv_i ((i : Int)))] [] := by
    intro j
    induction j with
    | zero => intro i ty2 σ2 _ _ _ hj; exact absurd hj (by omega)
    | succ j ih =>
      intro i ty2 σ2 hi G B hj
      refine sv_go C.1 C.2.1 [(.iload_n 1, 1), (.iconst 4, 1)] (pc' := 38) (by decide +kernel) rfl (lv' := [(0, sv_r a), (1, sv_i ((i : Int)))]) (st' := [sv_i 4, sv_i ((i : Int))]) rfl ?_
      refine sv_icmp C.1 C.2.1 (cnd := .ge) (off := 22) (by decide +kernel) (tgt := 60) rfl ⟨by omega, by omega⟩ ⟨by omega, by omega⟩ (fun hc => ?_) (fun hc => ?_)
      · have hi2 : i = 4 := by simp only [sv_cmp] at hc; omega
        subst hi2
        have Gc := G.close h021 (by rw [B.1]; exact B.2.1.done sv_zz21)
        refine sv_cnteq (cells' := 284) (slots' := 9907) (by omega) (by omega) ?_
        refine sv_go C.1 C.2.1 [(.aload_n 0, 1)] (pc' := 61) (by decide +kernel) rfl (lv' := [(0, sv_r a), (1, sv_i (((4 : Nat) : Int)))]) (st' := [sv_r a]) rfl ?_
        refine sv_ninit C J Gc (Kq := 5) (mc := 7) (ms := 2430) (NF := 12) (r := (RX0, TX0, 12)) rfl (by decide +kernel) (by decide +kernel) rfl rfl nw_kl_X9_30 nw_ns_X0 nw_in_X0 (by decide) (Nat.le_of_ble_eq_true rfl) (Nat.le_of_ble_eq_true rfl) (fun q ty1 σ1 t1 t2 t3 t4 kk => ?_) fun q39 ty40 σ41 G42 hq43 hk44 => ?_
        · exact sv_ciN C J (a := q) (as := []) (k := 0) (by decide +kernel) (ct_X0_init l g A q ty1 σ1 t1 t2 t3 t4) ⟨nw_co_X0_init, nw_in_X0, by decide +kernel, by decide, by decide⟩ nw_ml_X9_32 nw_im_X0_init rfl rfl rfl (Nat.le_of_ble_eq_true rfl) ⟨(Nat.le_of_ble_eq_true rfl), (Nat.le_of_ble_eq_true rfl)⟩ kk
        refine sv_pfG C hin G42 (z := ((q39 : Int) + 1)) (k := 3) (by decide +kernel) rfl (r := (RX9, TX9, 6)) rfl (by decide) rfl nw_fl_X9_33 rfl (by show (0 : Int) ≤ _; omega) (by decide) (by decide) ⟨Or.inr ⟨q39, rfl, hq43⟩, trivial⟩ fun G45 => ?_
        generalize eσ46 : (sv_up σ41 a 3 ((q39 : Int) + 1)) = σ46 at G45 ⊢
        clear eσ46
        refine sv_go C.1 C.2.1 [(.aload_n 0, 1)] (pc' := 72) (by decide +kernel) rfl (lv' := [(0, sv_r a), (1, sv_i (((4 : Nat) : Int)))]) (st' := [sv_r a]) rfl ?_
        refine sv_ninit2 (E := zd_8) C J G45 (Kq := 6) (mc := 39) (ms := 2202) (NF := 4) (r := (RX8, TX8, 4)) rfl (by decide +kernel) (by decide +kernel) rfl rfl nw_kl_X9_37 nw_ns_X8 nw_in_X8 (by decide) (Nat.le_of_ble_eq_true rfl) (Nat.le_of_ble_eq_true rfl) (fun q ty1 σ1 t1 t2 t3 t4 kk => ?_) fun q47 ty48 σ49 G50 hq51 hk52 hz0 hzE => ?_
        · exact sv_ci C J (a := q) (as := []) (k := 0) (by decide +kernel) (ct_X8_init2 l g A q ty1 σ1 t1 t2 t3 t4) ⟨nw_co_X8_init, nw_in_X8, by decide +kernel, by decide, by decide⟩ nw_ml_X9_39 nw_im_X8_init rfl rfl rfl (Nat.le_of_ble_eq_true rfl) ⟨(Nat.le_of_ble_eq_true rfl), (Nat.le_of_ble_eq_true rfl)⟩ kk
        refine sv_pfG C hin G50 (z := ((q47 : Int) + 1)) (k := 4) (by decide +kernel) rfl (r := (RX9, TX9, 6)) rfl (by decide) rfl nw_fl_X9_40 rfl (by show (0 : Int) ≤ _; omega) (by decide) (by decide) ⟨Or.inr ⟨q47, rfl, hq51⟩, trivial⟩ fun G53 => ?_
        generalize eσ54 : (sv_up σ49 a 4 ((q47 : Int) + 1)) = σ54 at G53 ⊢
        obtain ⟨zb, zb1, zb2, zb3⟩ := hzE
        have za1 : ty48 a = 1 := G50.2.1
        have zm : ∀ x, ty48 x ≠ 0 → ty48 x ≠ 1 → ty48 x = ty48 x ∧ σ54 x = σ49 x := fun x _ h1 => ⟨rfl, by rw [← eσ54]; exact sv_up_row (fun e => h1 (by rw [e]; exact za1))⟩
        have zD1 : zd_D ty48 σ54 zb 12 := zd_mv zm zb2 zb3
        have zt1 : σ54 q47 0 = (zb : Int) + 1 := by rw [(zm q47 (by rw [hq51]; decide) (by rw [hq51]; decide)).2]; exact zb1
        have ze1 : σ54 a 4 = (q47 : Int) + 1 := by rw [← eσ54]; exact sv_up_s _ _ _ _
        clear eσ54
        refine sv_go C.1 C.2.1 [(.aload_n 0, 1)] (pc' := 83) (by decide +kernel) rfl (lv' := [(0, sv_r a), (1, sv_i (((4 : Nat) : Int)))]) (st' := [sv_r a]) rfl ?_
        refine sv_ninit C J G53 (Kq := 7) (mc := 62) (ms := 789) (NF := 6) (r := (RX1, TX1, 6)) rfl (by decide +kernel) (by decide +kernel) rfl rfl nw_kl_X9_44 nw_ns_X1 nw_in_X1 (by decide) (Nat.le_of_ble_eq_true rfl) (Nat.le_of_ble_eq_true rfl) (fun q ty1 σ1 t1 t2 t3 t4 kk => ?_) fun q55 ty56 σ57 G58 hq59 hk60 => ?_
        · exact sv_ci C J (a := q) (as := []) (k := 0) (by decide +kernel) (ct_X1_init l g A q ty1 σ1 t1 t2 t3 t4) ⟨nw_co_X1_init, nw_in_X1, by decide +kernel, by decide, by decide⟩ nw_ml_X9_46 nw_im_X1_init rfl rfl rfl (Nat.le_of_ble_eq_true rfl) ⟨(Nat.le_of_ble_eq_true rfl), (Nat.le_of_ble_eq_true rfl)⟩ kk
        refine sv_pfG C hin G58 (z := ((q55 : Int) + 1)) (k := 5) (by decide +kernel) rfl (r := (RX9, TX9, 6)) rfl (by decide) rfl nw_fl_X9_47 rfl (by show (0 : Int) ≤ _; omega) (by decide) (by decide) ⟨Or.inr ⟨q55, rfl, hq59⟩, trivial⟩ fun G61 => ?_
        generalize eσ62 : (sv_up σ57 a 5 ((q55 : Int) + 1)) = σ62 at G61 ⊢
        have zD2 : zd_D ty56 σ57 zb 12 := zd_kp hk60 zb2 zD1
        have zk2 : ty56 zb = 37 := by rw [(hk60 zb (by rw [zb2]; decide)).1]; exact zb2
        have zq2 : ty56 q47 = 6 := by rw [(hk60 q47 (by rw [hq51]; decide)).1]; exact hq51
        have zt2 : σ57 q47 0 = (zb : Int) + 1 := by rw [(hk60 q47 (by rw [hq51]; decide)).2]; exact zt1
        have ze2 : σ57 a 4 = (q47 : Int) + 1 := by rw [(hk60 a G53.nza).2]; exact ze1
        have za2 : ty56 a = 1 := G58.2.1
        have zm2 : ∀ x, ty56 x ≠ 0 → ty56 x ≠ 1 → ty56 x = ty56 x ∧ σ62 x = σ57 x := fun x _ h1 => ⟨rfl, by rw [← eσ62]; exact sv_up_row (fun e => h1 (by rw [e]; exact za2))⟩
        have zD3 : zd_D ty56 σ62 zb 12 := zd_mv zm2 zk2 zD2
        have zt3 : σ62 q47 0 = (zb : Int) + 1 := by rw [(zm2 q47 (by rw [zq2]; decide) (by rw [zq2]; decide)).2]; exact zt2
        have ze3 : σ62 a 4 = (q47 : Int) + 1 := by rw [← eσ62, sv_up_k (by decide)]; exact ze2
        clear eσ62
        exact sv_nret C hr (by decide +kernel) rfl rfl ⟨G61.done (sv_zend (by decide) (fun _ => rfl)), q47, zb, ze3, zq2, zt3, zk2, zD3⟩
      · have hi2 : i < 4 := by simp only [sv_cmp] at hc; omega
        refine sv_go C.1 C.2.1 [(.aload_n 0, 1)] (pc' := 42) (by decide +kernel) rfl (lv' := [(0, sv_r a), (1, sv_i ((i : Int)))]) (st' := [sv_r a]) rfl ?_
        refine sv_gf C (a := a) (ci := 8) (k := 2) (r := (RX9, TX9, 6)) (v := sv_r q17) (by decide +kernel) (by rw [G.2.1]; rfl) rfl (by decide) nw_fl_X9_25 (by rw [B.2.2.1]; rfl) ?_
        refine sv_go C.1 C.2.1 [(.iload_n 1, 1)] (pc' := 46) (by decide +kernel) rfl (lv' := [(0, sv_r a), (1, sv_i ((i : Int)))]) (st' := [sv_i ((i : Int)), sv_r q17]) rfl ?_
        refine sv_ninit C J G (Kq := 4) (mc := 69) (ms := 1461) (NF := 11) (r := (RX4, TX4, 11)) rfl (by decide +kernel) (by decide +kernel) rfl rfl nw_kl_X9_23 nw_ns_X4 nw_in_X4 (by decide) (show 0 + 1 + 1 + 1 + 0 + 1 + i * 70 + 1 ≤ 395 by omega) (show 0 + 2 + 4000 + 13 + 0 + 4 + i * 1472 + 11 ≤ 15350 by omega) (fun q ty1 σ1 t1 t2 t3 t4 kk => ?_) fun q28 ty29 σ30 G31 hq32 hk33 => ?_
        · exact sv_ciN C J (a := q) (as := []) (k := 0) (by decide +kernel) (ct_X4_init l g A q ty1 σ1 t1 t2 t3 t4) ⟨nw_co_X4_init, nw_in_X4, by decide +kernel, by decide, by decide⟩ nw_ml_X9_29 nw_im_X4_init rfl rfl rfl (Nat.le_of_ble_eq_true rfl) ⟨(show 0 + 1 + 1 + 1 + 0 + 1 + i * 70 + 1 + 69 ≤ 395 by omega), (show 0 + 2 + 4000 + 13 + 0 + 4 + i * 1472 + 11 + 1461 ≤ 15350 by omega)⟩ kk
        have B34 := B.kp (by decide) G.nza hk33
        refine sv_asG C G31 B34 (r := (RX4, TX4, 11)) (N := 4) (ci := 3) (Kq := 4) (by decide) (by decide +kernel) rfl rfl hq32 rfl (by decide) hi2 (sp_1_21 hi2) (sp_0_21 i) fun σ35 G36 B37 hr38 => ?_
        refine sv_go C.1 C.2.1 [(.iinc 1 1, 3)] (pc' := 57) (by decide +kernel) rfl (lv' := [(0, sv_r a), (1, sv_i (((i : Int)) + 1))]) (st' := []) rfl ?_
        refine sv_goto C.1 C.2.1 (off := -21) (by decide +kernel) (tgt := 36) rfl ?_
        refine sv_cnteq (cells' := 0 + 1 + 1 + 1 + 0 + 1 + (i + 1) * 70) (slots' := 0 + 2 + 4000 + 13 + 0 + 4 + (i + 1) * 1472) (by omega) (by omega) ?_
        refine sv_same (st2 := []) (lv2 := [(0, sv_r a), (1, sv_i ((i + 1 : Nat) : Int))]) rfl rfl ?_
        exact ih (i + 1) ty29 σ35 (by omega) G36 B37 (by omega)
  refine sv_cnteq (cells' := 0 + 1 + 1 + 1 + 0 + 1 + 0 * 70) (slots' := 0 + 2 + 4000 + 13 + 0 + 4 + 0 * 1472) (by omega) (by omega) ?_
  refine sv_same (st2 := []) (lv2 := [(0, sv_r a), (1, sv_i ((0 : Nat) : Int))]) rfl rfl ?_
  exact L 5 0 ty18 σ26 (by omega) G25 B27 (by omega)

