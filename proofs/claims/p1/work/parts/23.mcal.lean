theorem fl_X11_51 : Cond.fieldLink RX11 51 "SaintsRoadModel" "yieldRank" "[I" ∈ lw_good := sv_mem 1105 (by decide +kernel) rfl
theorem fl_X11_54 : Cond.fieldLink RX11 54 "SaintsRoadModel" "yieldTimes" "[I" ∈ lw_good := sv_mem 1106 (by decide +kernel) rfl
theorem fl_X11_60 : Cond.fieldLink RX11 60 "SaintsRoadModel" "wax" "[I" ∈ lw_good := sv_mem 1108 (by decide +kernel) rfl
set_option maxHeartbeats 4000000 in
set_option maxRecDepth 100000 in
theorem ct_X11_clear (l : Launch) (g : sv_G) (A : Nat → Prop) (ty : Nat → Nat) (σ : Nat → Nat → Int) (hok : sv_ok ty σ) (hTA : ∀ q, ty q ≠ 0 → A q) (hI : sv_inv sp_1 ty σ) (a : Nat) (k_a : ty a = 10) (v1 : Int) (hv1 : 0 ≤ v1 ∧ v1 ≤ 4) : sv_M l yX11_clear cX11_clear 3 none { frames := 0, cells := 0, slots := 0, locals := 0 } g A ty σ [sv_r a, sv_i v1] (fun r σ' => r = [] ∧ sv_inv sp_1 ty σ' ∧ sv_off [60, 61, 62, 63, 64] ty σ σ') := by
  refine sv_enter (by decide) (Nat.le_of_ble_eq_true rfl) ?_
  intro p e s m args below meth c C hr
  have C : sv_C g A RX11 cX11_clear 3 p s m args meth c := C
  have hr : meth.sig.returnType = none := hr
  have hF : sv_off [60, 61, 62, 63, 64] ty σ σ := sv_off.rf
  refine sv_same (st2 := []) (lv2 := [(0, sv_r a), (1, sv_i v1)]) rfl rfl ?_
  refine sv_go C.1 C.2.1 [(.aload_n 0, 1)] (pc' := 1) (by decide +kernel) rfl (lv' := [(0, sv_r a), (1, sv_i v1)]) (st' := [sv_r a]) rfl ?_
  obtain ⟨q1, eq1, kq1⟩ := hI.ref (k := 0) k_a rfl
  refine sv_gf C (index := 47) (ci := 10) (k := 0) (r := (RX11, TX11, 47)) (v := sv_r q1) (by decide +kernel) (by rw [k_a]; rfl) rfl (by decide) fl_X11_47 (congrArg sv_a eq1) ?_
  refine sv_go C.1 C.2.1 [(.iload_n 1, 1), (.iconst 0, 1)] (pc' := 6) (by decide +kernel) rfl (lv' := [(0, sv_r a), (1, sv_i v1)]) (st' := [sv_i 0, sv_i v1, sv_r q1]) rfl ?_
  refine sv_is C (n := 5) (by decide +kernel) (by rw [kq1]; rfl) (by decide) (by omega) (by omega) ⟨by omega, by omega⟩ (hTA _ (by rw [kq1]; decide)) hok (fun hok2 => ?_)
  have hI4 := hI.up (a := q1) (k := (v1 : Int).toNat) (z := 0) (by rw [kq1]; exact ⟨by omega, by omega⟩)
  have hF5 := hF.up (a := q1) (k := (v1 : Int).toNat) (z := 0) (by rw [kq1]; decide)
  generalize eσ3 : sv_up σ q1 (v1 : Int).toNat 0 = σ3 at hok2 hI4 hF5 ⊢
  have t6 : σ3 a 0 = (q1 : Int) + 1 := by rw [← eσ3, sv_up_a (sv_ne k_a kq1 (by decide))]; exact eq1
  refine sv_go C.1 C.2.1 [(.aload_n 0, 1)] (pc' := 8) (by decide +kernel) rfl (lv' := [(0, sv_r a), (1, sv_i v1)]) (st' := [sv_r a]) rfl ?_
  obtain ⟨q7, eq7, kq7⟩ := hI4.ref (k := 1) k_a rfl
  refine sv_gf C (index := 51) (ci := 10) (k := 1) (r := (RX11, TX11, 47)) (v := sv_r q7) (by decide +kernel) (by rw [k_a]; rfl) rfl (by decide) fl_X11_51 (congrArg sv_a eq7) ?_
  refine sv_go C.1 C.2.1 [(.iload_n 1, 1), (.iconst 0, 1)] (pc' := 13) (by decide +kernel) rfl (lv' := [(0, sv_r a), (1, sv_i v1)]) (st' := [sv_i 0, sv_i v1, sv_r q7]) rfl ?_
  refine sv_is C (n := 5) (by decide +kernel) (by rw [kq7]; rfl) (by decide) (by omega) (by omega) ⟨by omega, by omega⟩ (hTA _ (by rw [kq7]; decide)) hok2 (fun hok8 => ?_)
  have hI10 := hI4.up (a := q7) (k := (v1 : Int).toNat) (z := 0) (by rw [kq7]; exact trivial)
  have hF11 := hF5.up (a := q7) (k := (v1 : Int).toNat) (z := 0) (by rw [kq7]; decide)
  generalize eσ9 : sv_up σ3 q7 (v1 : Int).toNat 0 = σ9 at hok8 hI10 hF11 ⊢
  have t12 : σ9 a 0 = (q1 : Int) + 1 := by rw [← eσ9, sv_up_a (sv_ne k_a kq7 (by decide))]; exact t6
  have t13 : σ9 a 1 = (q7 : Int) + 1 := by rw [← eσ9, sv_up_a (sv_ne k_a kq7 (by decide))]; exact eq7
  refine sv_go C.1 C.2.1 [(.aload_n 0, 1)] (pc' := 15) (by decide +kernel) rfl (lv' := [(0, sv_r a), (1, sv_i v1)]) (st' := [sv_r a]) rfl ?_
  obtain ⟨q14, eq14, kq14⟩ := hI10.ref (k := 2) k_a rfl
  refine sv_gf C (index := 54) (ci := 10) (k := 2) (r := (RX11, TX11, 47)) (v := sv_r q14) (by decide +kernel) (by rw [k_a]; rfl) rfl (by decide) fl_X11_54 (congrArg sv_a eq14) ?_
  refine sv_go C.1 C.2.1 [(.iload_n 1, 1), (.iconst 0, 1)] (pc' := 20) (by decide +kernel) rfl (lv' := [(0, sv_r a), (1, sv_i v1)]) (st' := [sv_i 0, sv_i v1, sv_r q14]) rfl ?_
  refine sv_is C (n := 5) (by decide +kernel) (by rw [kq14]; rfl) (by decide) (by omega) (by omega) ⟨by omega, by omega⟩ (hTA _ (by rw [kq14]; decide)) hok8 (fun hok15 => ?_)
  have hI17 := hI10.up (a := q14) (k := (v1 : Int).toNat) (z := 0) (by rw [kq14]; exact trivial)
  have hF18 := hF11.up (a := q14) (k := (v1 : Int).toNat) (z := 0) (by rw [kq14]; decide)
  generalize eσ16 : sv_up σ9 q14 (v1 : Int).toNat 0 = σ16 at hok15 hI17 hF18 ⊢
  have t19 : σ16 a 0 = (q1 : Int) + 1 := by rw [← eσ16, sv_up_a (sv_ne k_a kq14 (by decide))]; exact t12
  have t20 : σ16 a 1 = (q7 : Int) + 1 := by rw [← eσ16, sv_up_a (sv_ne k_a kq14 (by decide))]; exact t13
  have t21 : σ16 a 2 = (q14 : Int) + 1 := by rw [← eσ16, sv_up_a (sv_ne k_a kq14 (by decide))]; exact eq14
  refine sv_go C.1 C.2.1 [(.aload_n 0, 1)] (pc' := 22) (by decide +kernel) rfl (lv' := [(0, sv_r a), (1, sv_i v1)]) (st' := [sv_r a]) rfl ?_
  obtain ⟨q22, eq22, kq22⟩ := hI17.ref (k := 3) k_a rfl
  refine sv_gf C (index := 57) (ci := 10) (k := 3) (r := (RX11, TX11, 47)) (v := sv_r q22) (by decide +kernel) (by rw [k_a]; rfl) rfl (by decide) fl_X11_57 (congrArg sv_a eq22) ?_
  refine sv_go C.1 C.2.1 [(.iload_n 1, 1), (.iconst 0, 1)] (pc' := 27) (by decide +kernel) rfl (lv' := [(0, sv_r a), (1, sv_i v1)]) (st' := [sv_i 0, sv_i v1, sv_r q22]) rfl ?_
  refine sv_is C (n := 5) (by decide +kernel) (by rw [kq22]; rfl) (by decide) (by omega) (by omega) ⟨by omega, by omega⟩ (hTA _ (by rw [kq22]; decide)) hok15 (fun hok23 => ?_)
  have hI25 := hI17.up (a := q22) (k := (v1 : Int).toNat) (z := 0) (by rw [kq22]; exact trivial)
  have hF26 := hF18.up (a := q22) (k := (v1 : Int).toNat) (z := 0) (by rw [kq22]; decide)
  generalize eσ24 : sv_up σ16 q22 (v1 : Int).toNat 0 = σ24 at hok23 hI25 hF26 ⊢
  have t27 : σ24 a 0 = (q1 : Int) + 1 := by rw [← eσ24, sv_up_a (sv_ne k_a kq22 (by decide))]; exact t19
  have t28 : σ24 a 1 = (q7 : Int) + 1 := by rw [← eσ24, sv_up_a (sv_ne k_a kq22 (by decide))]; exact t20
  have t29 : σ24 a 2 = (q14 : Int) + 1 := by rw [← eσ24, sv_up_a (sv_ne k_a kq22 (by decide))]; exact t21
  have t30 : σ24 a 3 = (q22 : Int) + 1 := by rw [← eσ24, sv_up_a (sv_ne k_a kq22 (by decide))]; exact eq22
  refine sv_go C.1 C.2.1 [(.iconst 0, 1), (.istore_n 2, 1)] (pc' := 30) (by decide +kernel) rfl (lv' := [(0, sv_r a), (1, sv_i v1), (2, sv_i 0)]) (st' := []) rfl ?_
  have L33 : ∀ (n : Nat) (X : Int) (σ31 : Nat → Nat → Int), (sv_ok ty σ31) → (sv_inv sp_1 ty σ31) → (sv_off [60, 61, 62, 63, 64] ty σ σ31) → (σ31 a 0 = (q1 : Int) + 1) → (σ31 a 1 = (q7 : Int) + 1) → (σ31 a 2 = (q14 : Int) + 1) → (σ31 a 3 = (q22 : Int) + 1) → (0 ≤ X ∧ X ≤ 9) → (9 - X) < (n : Int) → sv_E p l e { frames := 0, cells := 0, slots := 0, locals := 0 } s m args below meth c 3 g A ty (fun r σ' => r = [] ∧ sv_inv sp_1 ty σ' ∧ sv_off [60, 61, 62, 63, 64] ty σ σ') σ31 30 [(0, sv_r a), (1, sv_i v1), (2, sv_i X)] [] := by
    intro n
    induction n with
    | zero => intro X σ31 hokc32 hIc32 hFc32 kc32_0 kc32_1 kc32_2 kc32_3 hX hmu; exact absurd hmu (by omega)
    | succ n ih34 =>
      intro X σ31 hokc32 hIc32 hFc32 kc32_0 kc32_1 kc32_2 kc32_3 hX hmu
      refine sv_go C.1 C.2.1 [(.iload_n 2, 1), (.bipush 9, 2)] (pc' := 33) (by decide +kernel) rfl (lv' := [(0, sv_r a), (1, sv_i v1), (2, sv_i X)]) (st' := [sv_i 9, sv_i X]) rfl ?_
      refine sv_icmp C.1 C.2.1 (cnd := .ge) (off := 21) (tgt := 54) (by decide +kernel) (by decide) ⟨by omega, by omega⟩ ⟨by omega, by omega⟩ (fun (h35 : 9 ≤ X) => ?_) (fun (h35 : ¬ (9 ≤ X)) => ?_)
      · exact sv_vret C hr (by decide +kernel) hokc32 (⟨rfl, hIc32, hFc32⟩)
      · refine sv_go C.1 C.2.1 [(.aload_n 0, 1)] (pc' := 37) (by decide +kernel) rfl (lv' := [(0, sv_r a), (1, sv_i v1), (2, sv_i X)]) (st' := [sv_r a]) rfl ?_
        obtain ⟨q36, eq36, kq36⟩ := hIc32.ref (k := 4) k_a rfl
        refine sv_gf C (index := 60) (ci := 10) (k := 4) (r := (RX11, TX11, 47)) (v := sv_r q36) (by decide +kernel) (by rw [k_a]; rfl) rfl (by decide) fl_X11_60 (congrArg sv_a eq36) ?_
        refine sv_go C.1 C.2.1 [(.bipush 9, 2), (.iload_n 1, 1), (.imul, 1), (.iload_n 2, 1), (.iadd, 1), (.iconst 0, 1)] (pc' := 47) (by decide +kernel) rfl (lv' := [(0, sv_r a), (1, sv_i v1), (2, sv_i X)]) (st' := [sv_i 0, sv_i ((9 * v1) + X), sv_r q36]) rfl ?_
        refine sv_is C (n := 45) (by decide +kernel) (by rw [kq36]; rfl) (by decide) (by omega) (by omega) ⟨by omega, by omega⟩ (hTA _ (by rw [kq36]; decide)) hokc32 (fun hok37 => ?_)
        have hI39 := hIc32.up (a := q36) (k := ((9 * v1) + X : Int).toNat) (z := 0) (by rw [kq36]; exact trivial)
        have hF40 := hFc32.up (a := q36) (k := ((9 * v1) + X : Int).toNat) (z := 0) (by rw [kq36]; decide)
        generalize eσ38 : sv_up σ31 q36 ((9 * v1) + X : Int).toNat 0 = σ38 at hok37 hI39 hF40 ⊢
        have t41 : σ38 a 0 = (q1 : Int) + 1 := by rw [← eσ38, sv_up_a (sv_ne k_a kq36 (by decide))]; exact kc32_0
        have t42 : σ38 a 1 = (q7 : Int) + 1 := by rw [← eσ38, sv_up_a (sv_ne k_a kq36 (by decide))]; exact kc32_1
        have t43 : σ38 a 2 = (q14 : Int) + 1 := by rw [← eσ38, sv_up_a (sv_ne k_a kq36 (by decide))]; exact kc32_2
        have t44 : σ38 a 3 = (q22 : Int) + 1 := by rw [← eσ38, sv_up_a (sv_ne k_a kq36 (by decide))]; exact kc32_3
        have t45 : σ38 a 4 = (q36 : Int) + 1 := by rw [← eσ38, sv_up_a (sv_ne k_a kq36 (by decide))]; exact eq36
        refine sv_go C.1 C.2.1 [(.iinc 2 1, 3)] (pc' := 51) (by decide +kernel) rfl (lv' := [(0, sv_r a), (1, sv_i v1), (2, sv_i (X + 1))]) (st' := []) rfl ?_
        refine sv_goto C.1 C.2.1 (off := (-21)) (tgt := 30) (by decide +kernel) (by decide) ?_
        exact ih34 (X + 1) σ38 hok37 hI39 hF40 t41 t42 t43 t44 (by omega) (by omega)
  exact L33 (((9 - 0 : Int)).toNat + 1) 0 σ24 hok23 hI25 hF26 t27 t28 t29 t30 (by omega) (by omega)

set_option maxHeartbeats 4000000 in
set_option maxRecDepth 100000 in
theorem ct_X11_become (l : Launch) (g : sv_G) (A : Nat → Prop) (ty : Nat → Nat) (σ : Nat → Nat → Int) (hok : sv_ok ty σ) (hTA : ∀ q, ty q ≠ 0 → A q) (hI : sv_inv sp_1 ty σ) (a : Nat) (k_a : ty a = 10) (v1 : Int) (hv1 : 0 ≤ v1 ∧ v1 ≤ 4) (v2 : Int) (hv2 : 0 ≤ v2 ∧ v2 ≤ 4) : sv_M l yX11_become cX11_become 7 none { frames := 0, cells := 0, slots := 0, locals := 0 } g A ty σ [sv_r a, sv_i v1, sv_i v2] (fun r σ' => r = [] ∧ sv_inv sp_1 ty σ' ∧ sv_off [60, 61, 62, 63, 64] ty σ σ') := by
  refine sv_enter (by decide) (Nat.le_of_ble_eq_true rfl) ?_
  intro p e s m args below meth c C hr
  have C : sv_C g A RX11 cX11_become 7 p s m args meth c := C
  have hr : meth.sig.returnType = none := hr
  have hF : sv_off [60, 61, 62, 63, 64] ty σ σ := sv_off.rf
  refine sv_same (st2 := []) (lv2 := [(0, sv_r a), (1, sv_i v1), (2, sv_i v2)]) rfl rfl ?_
  refine sv_go C.1 C.2.1 [(.aload_n 0, 1)] (pc' := 1) (by decide +kernel) rfl (lv' := [(0, sv_r a), (1, sv_i v1), (2, sv_i v2)]) (st' := [sv_r a]) rfl ?_
  obtain ⟨q1, eq1, kq1⟩ := hI.ref (k := 0) k_a rfl
  refine sv_gf C (index := 47) (ci := 10) (k := 0) (r := (RX11, TX11, 47)) (v := sv_r q1) (by decide +kernel) (by rw [k_a]; rfl) rfl (by decide) fl_X11_47 (congrArg sv_a eq1) ?_
  refine sv_go C.1 C.2.1 [(.iload_n 1, 1), (.aload_n 0, 1)] (pc' := 6) (by decide +kernel) rfl (lv' := [(0, sv_r a), (1, sv_i v1), (2, sv_i v2)]) (st' := [sv_r a, sv_i v1, sv_r q1]) rfl ?_
  refine sv_gf C (index := 47) (ci := 10) (k := 0) (r := (RX11, TX11, 47)) (v := sv_r q1) (by decide +kernel) (by rw [k_a]; rfl) rfl (by decide) fl_X11_47 (congrArg sv_a eq1) ?_
  refine sv_go C.1 C.2.1 [(.iload_n 2, 1)] (pc' := 10) (by decide +kernel) rfl (lv' := [(0, sv_r a), (1, sv_i v1), (2, sv_i v2)]) (st' := [sv_i v2, sv_r q1, sv_i v1, sv_r q1]) rfl ?_
  refine sv_ia C (n := 5) (by decide +kernel) (by rw [kq1]; rfl) (by decide) (by omega) (by omega) ?_
  have w2 : σ q1 v2.toNat = 0 := by have q := hI.num (k := (v2 : Int).toNat) kq1 rfl; omega
  rw [w2]
  refine sv_is C (n := 5) (by decide +kernel) (by rw [kq1]; rfl) (by decide) (by omega) (by omega) ⟨by omega, by omega⟩ (hTA _ (by rw [kq1]; decide)) hok (fun hok3 => ?_)
  have hI5 := hI.up (a := q1) (k := (v1 : Int).toNat) (z := 0) (by rw [kq1]; exact ⟨by omega, by omega⟩)
  have hF6 := hF.up (a := q1) (k := (v1 : Int).toNat) (z := 0) (by rw [kq1]; decide)
  generalize eσ4 : sv_up σ q1 (v1 : Int).toNat 0 = σ4 at hok3 hI5 hF6 ⊢
  have t7 : σ4 a 0 = (q1 : Int) + 1 := by rw [← eσ4, sv_up_a (sv_ne k_a kq1 (by decide))]; exact eq1
  refine sv_go C.1 C.2.1 [(.aload_n 0, 1)] (pc' := 13) (by decide +kernel) rfl (lv' := [(0, sv_r a), (1, sv_i v1), (2, sv_i v2)]) (st' := [sv_r a]) rfl ?_
  obtain ⟨q8, eq8, kq8⟩ := hI5.ref (k := 1) k_a rfl
  refine sv_gf C (index := 51) (ci := 10) (k := 1) (r := (RX11, TX11, 47)) (v := sv_r q8) (by decide +kernel) (by rw [k_a]; rfl) rfl (by decide) fl_X11_51 (congrArg sv_a eq8) ?_
  refine sv_go C.1 C.2.1 [(.iload_n 1, 1), (.aload_n 0, 1)] (pc' := 18) (by decide +kernel) rfl (lv' := [(0, sv_r a), (1, sv_i v1), (2, sv_i v2)]) (st' := [sv_r a, sv_i v1, sv_r q8]) rfl ?_
  refine sv_gf C (index := 51) (ci := 10) (k := 1) (r := (RX11, TX11, 47)) (v := sv_r q8) (by decide +kernel) (by rw [k_a]; rfl) rfl (by decide) fl_X11_51 (congrArg sv_a eq8) ?_
  refine sv_go C.1 C.2.1 [(.iload_n 2, 1)] (pc' := 22) (by decide +kernel) rfl (lv' := [(0, sv_r a), (1, sv_i v1), (2, sv_i v2)]) (st' := [sv_i v2, sv_r q8, sv_i v1, sv_r q8]) rfl ?_
  refine sv_ia C (n := 5) (by decide +kernel) (by rw [kq8]; rfl) (by decide) (by omega) (by omega) ?_
  have w9 := sv_ok.el hok3 (k := (v2 : Int).toNat) (t := .int) (n := 5) (by rw [kq8]; rfl) (by omega)
  generalize hw9 : σ4 q8 v2.toNat = xw9 at w9 ⊢
  have w9 : sv_in xw9 := w9
  refine sv_is C (n := 5) (by decide +kernel) (by rw [kq8]; rfl) (by decide) (by omega) (by omega) ⟨by omega, by omega⟩ (hTA _ (by rw [kq8]; decide)) hok3 (fun hok10 => ?_)
  have hI12 := hI5.up (a := q8) (k := (v1 : Int).toNat) (z := xw9) (by rw [kq8]; exact trivial)
  have hF13 := hF6.up (a := q8) (k := (v1 : Int).toNat) (z := xw9) (by rw [kq8]; decide)
  generalize eσ11 : sv_up σ4 q8 (v1 : Int).toNat xw9 = σ11 at hok10 hI12 hF13 ⊢
  have t14 : σ11 a 0 = (q1 : Int) + 1 := by rw [← eσ11, sv_up_a (sv_ne k_a kq8 (by decide))]; exact t7
  have t15 : σ11 a 1 = (q8 : Int) + 1 := by rw [← eσ11, sv_up_a (sv_ne k_a kq8 (by decide))]; exact eq8
  refine sv_go C.1 C.2.1 [(.aload_n 0, 1)] (pc' := 25) (by decide +kernel) rfl (lv' := [(0, sv_r a), (1, sv_i v1), (2, sv_i v2)]) (st' := [sv_r a]) rfl ?_
  obtain ⟨q16, eq16, kq16⟩ := hI12.ref (k := 2) k_a rfl
  refine sv_gf C (index := 54) (ci := 10) (k := 2) (r := (RX11, TX11, 47)) (v := sv_r q16) (by decide +kernel) (by rw [k_a]; rfl) rfl (by decide) fl_X11_54 (congrArg sv_a eq16) ?_
  refine sv_go C.1 C.2.1 [(.iload_n 1, 1), (.aload_n 0, 1)] (pc' := 30) (by decide +kernel) rfl (lv' := [(0, sv_r a), (1, sv_i v1), (2, sv_i v2)]) (st' := [sv_r a, sv_i v1, sv_r q16]) rfl ?_
  refine sv_gf C (index := 54) (ci := 10) (k := 2) (r := (RX11, TX11, 47)) (v := sv_r q16) (by decide +kernel) (by rw [k_a]; rfl) rfl (by decide) fl_X11_54 (congrArg sv_a eq16) ?_
  refine sv_go C.1 C.2.1 [(.iload_n 2, 1)] (pc' := 34) (by decide +kernel) rfl (lv' := [(0, sv_r a), (1, sv_i v1), (2, sv_i v2)]) (st' := [sv_i v2, sv_r q16, sv_i v1, sv_r q16]) rfl ?_
  refine sv_ia C (n := 5) (by decide +kernel) (by rw [kq16]; rfl) (by decide) (by omega) (by omega) ?_
  have w17 := sv_ok.el hok10 (k := (v2 : Int).toNat) (t := .int) (n := 5) (by rw [kq16]; rfl) (by omega)
  generalize hw17 : σ11 q16 v2.toNat = xw17 at w17 ⊢
  have w17 : sv_in xw17 := w17
  refine sv_is C (n := 5) (by decide +kernel) (by rw [kq16]; rfl) (by decide) (by omega) (by omega) ⟨by omega, by omega⟩ (hTA _ (by rw [kq16]; decide)) hok10 (fun hok18 => ?_)
  have hI20 := hI12.up (a := q16) (k := (v1 : Int).toNat) (z := xw17) (by rw [kq16]; exact trivial)
  have hF21 := hF13.up (a := q16) (k := (v1 : Int).toNat) (z := xw17) (by rw [kq16]; decide)
  generalize eσ19 : sv_up σ11 q16 (v1 : Int).toNat xw17 = σ19 at hok18 hI20 hF21 ⊢
  have t22 : σ19 a 0 = (q1 : Int) + 1 := by rw [← eσ19, sv_up_a (sv_ne k_a kq16 (by decide))]; exact t14
  have t23 : σ19 a 1 = (q8 : Int) + 1 := by rw [← eσ19, sv_up_a (sv_ne k_a kq16 (by decide))]; exact t15
  have t24 : σ19 a 2 = (q16 : Int) + 1 := by rw [← eσ19, sv_up_a (sv_ne k_a kq16 (by decide))]; exact eq16
  refine sv_go C.1 C.2.1 [(.aload_n 0, 1)] (pc' := 37) (by decide +kernel) rfl (lv' := [(0, sv_r a), (1, sv_i v1), (2, sv_i v2)]) (st' := [sv_r a]) rfl ?_
  obtain ⟨q25, eq25, kq25⟩ := hI20.ref (k := 3) k_a rfl
  refine sv_gf C (index := 57) (ci := 10) (k := 3) (r := (RX11, TX11, 47)) (v := sv_r q25) (by decide +kernel) (by rw [k_a]; rfl) rfl (by decide) fl_X11_57 (congrArg sv_a eq25) ?_
  refine sv_go C.1 C.2.1 [(.iload_n 1, 1), (.aload_n 0, 1)] (pc' := 42) (by decide +kernel) rfl (lv' := [(0, sv_r a), (1, sv_i v1), (2, sv_i v2)]) (st' := [sv_r a, sv_i v1, sv_r q25]) rfl ?_
  refine sv_gf C (index := 57) (ci := 10) (k := 3) (r := (RX11, TX11, 47)) (v := sv_r q25) (by decide +kernel) (by rw [k_a]; rfl) rfl (by decide) fl_X11_57 (congrArg sv_a eq25) ?_
  refine sv_go C.1 C.2.1 [(.iload_n 2, 1)] (pc' := 46) (by decide +kernel) rfl (lv' := [(0, sv_r a), (1, sv_i v1), (2, sv_i v2)]) (st' := [sv_i v2, sv_r q25, sv_i v1, sv_r q25]) rfl ?_
  refine sv_ia C (n := 5) (by decide +kernel) (by rw [kq25]; rfl) (by decide) (by omega) (by omega) ?_
  have w26 := sv_ok.el hok18 (k := (v2 : Int).toNat) (t := .int) (n := 5) (by rw [kq25]; rfl) (by omega)
  generalize hw26 : σ19 q25 v2.toNat = xw26 at w26 ⊢
  have w26 : sv_in xw26 := w26
  refine sv_is C (n := 5) (by decide +kernel) (by rw [kq25]; rfl) (by decide) (by omega) (by omega) ⟨by omega, by omega⟩ (hTA _ (by rw [kq25]; decide)) hok18 (fun hok27 => ?_)
  have hI29 := hI20.up (a := q25) (k := (v1 : Int).toNat) (z := xw26) (by rw [kq25]; exact trivial)
  have hF30 := hF21.up (a := q25) (k := (v1 : Int).toNat) (z := xw26) (by rw [kq25]; decide)
  generalize eσ28 : sv_up σ19 q25 (v1 : Int).toNat xw26 = σ28 at hok27 hI29 hF30 ⊢
  have t31 : σ28 a 0 = (q1 : Int) + 1 := by rw [← eσ28, sv_up_a (sv_ne k_a kq25 (by decide))]; exact t22
  have t32 : σ28 a 1 = (q8 : Int) + 1 := by rw [← eσ28, sv_up_a (sv_ne k_a kq25 (by decide))]; exact t23
  have t33 : σ28 a 2 = (q16 : Int) + 1 := by rw [← eσ28, sv_up_a (sv_ne k_a kq25 (by decide))]; exact t24
  have t34 : σ28 a 3 = (q25 : Int) + 1 := by rw [← eσ28, sv_up_a (sv_ne k_a kq25 (by decide))]; exact eq25
  refine sv_go C.1 C.2.1 [(.iconst 0, 1), (.istore_n 3, 1)] (pc' := 50) (by decide +kernel) rfl (lv' := [(0, sv_r a), (1, sv_i v1), (2, sv_i v2), (3, sv_i 0)]) (st' := []) rfl ?_
  have L37 : ∀ (n : Nat) (X : Int) (σ35 : Nat → Nat → Int), (sv_ok ty σ35) → (sv_inv sp_1 ty σ35) → (sv_off [60, 61, 62, 63, 64] ty σ σ35) → (σ35 a 0 = (q1 : Int) + 1) → (σ35 a 1 = (q8 : Int) + 1) → (σ35 a 2 = (q16 : Int) + 1) → (σ35 a 3 = (q25 : Int) + 1) → (0 ≤ X ∧ X ≤ 9) → (9 - X) < (n : Int) → sv_E p l e { frames := 0, cells := 0, slots := 0, locals := 0 } s m args below meth c 7 g A ty (fun r σ' => r = [] ∧ sv_inv sp_1 ty σ' ∧ sv_off [60, 61, 62, 63, 64] ty σ σ') σ35 50 [(0, sv_r a), (1, sv_i v1), (2, sv_i v2), (3, sv_i X)] [] := by
    intro n
    induction n with
    | zero => intro X σ35 hokc36 hIc36 hFc36 kc36_0 kc36_1 kc36_2 kc36_3 hX hmu; exact absurd hmu (by omega)
    | succ n ih38 =>
      intro X σ35 hokc36 hIc36 hFc36 kc36_0 kc36_1 kc36_2 kc36_3 hX hmu
      refine sv_go C.1 C.2.1 [(.iload_n 3, 1), (.bipush 9, 2)] (pc' := 53) (by decide +kernel) rfl (lv' := [(0, sv_r a), (1, sv_i v1), (2, sv_i v2), (3, sv_i X)]) (st' := [sv_i 9, sv_i X]) rfl ?_
      refine sv_icmp C.1 C.2.1 (cnd := .ge) (off := 31) (tgt := 84) (by decide +kernel) (by decide) ⟨by omega, by omega⟩ ⟨by omega, by omega⟩ (fun (h39 : 9 ≤ X) => ?_) (fun (h39 : ¬ (9 ≤ X)) => ?_)
      · refine sv_go C.1 C.2.1 [(.iconst 0, 1), (.istore_n 3, 1), (.iload_n 3, 1), (.aload_n 0, 1)] (pc' := 88) (by decide +kernel) rfl (lv' := [(0, sv_r a), (1, sv_i v1), (2, sv_i v2), (3, sv_i 0)]) (st' := [sv_r a, sv_i 0]) rfl ?_
        refine sv_gf C (index := 47) (ci := 10) (k := 0) (r := (RX11, TX11, 47)) (v := sv_r q1) (by decide +kernel) (by rw [k_a]; rfl) rfl (by decide) fl_X11_47 (congrArg sv_a kc36_0) ?_
        refine sv_go C.1 C.2.1 [(.iload_n 2, 1)] (pc' := 92) (by decide +kernel) rfl (lv' := [(0, sv_r a), (1, sv_i v1), (2, sv_i v2), (3, sv_i 0)]) (st' := [sv_i v2, sv_r q1, sv_i 0]) rfl ?_
        refine sv_ia C (n := 5) (by decide +kernel) (by rw [kq1]; rfl) (by decide) (by omega) (by omega) ?_
        have w40 : σ35 q1 v2.toNat = 0 := by have q := hIc36.num (k := (v2 : Int).toNat) kq1 rfl; omega
        rw [w40]
        refine sv_icmp_t C.1 C.2.1 (cnd := .ge) (off := 191) (tgt := 284) (by decide +kernel) (by decide) ⟨by omega, by omega⟩ ⟨by omega, by omega⟩ (show 0 ≤ 0 by omega) ?_
        exact sv_vret C hr (by decide +kernel) hokc36 (⟨rfl, hIc36, hFc36⟩)
      · refine sv_go C.1 C.2.1 [(.aload_n 0, 1)] (pc' := 57) (by decide +kernel) rfl (lv' := [(0, sv_r a), (1, sv_i v1), (2, sv_i v2), (3, sv_i X)]) (st' := [sv_r a]) rfl ?_
        obtain ⟨q41, eq41, kq41⟩ := hIc36.ref (k := 4) k_a rfl
        refine sv_gf C (index := 60) (ci := 10) (k := 4) (r := (RX11, TX11, 47)) (v := sv_r q41) (by decide +kernel) (by rw [k_a]; rfl) rfl (by decide) fl_X11_60 (congrArg sv_a eq41) ?_
        refine sv_go C.1 C.2.1 [(.bipush 9, 2), (.iload_n 1, 1), (.imul, 1), (.iload_n 3, 1), (.iadd, 1), (.aload_n 0, 1)] (pc' := 67) (by decide +kernel) rfl (lv' := [(0, sv_r a), (1, sv_i v1), (2, sv_i v2), (3, sv_i X)]) (st' := [sv_r a, sv_i ((9 * v1) + X), sv_r q41]) rfl ?_
        refine sv_gf C (index := 60) (ci := 10) (k := 4) (r := (RX11, TX11, 47)) (v := sv_r q41) (by decide +kernel) (by rw [k_a]; rfl) rfl (by decide) fl_X11_60 (congrArg sv_a eq41) ?_
        refine sv_go C.1 C.2.1 [(.bipush 9, 2), (.iload_n 2, 1), (.imul, 1), (.iload_n 3, 1), (.iadd, 1)] (pc' := 76) (by decide +kernel) rfl (lv' := [(0, sv_r a), (1, sv_i v1), (2, sv_i v2), (3, sv_i X)]) (st' := [sv_i ((9 * v2) + X), sv_r q41, sv_i ((9 * v1) + X), sv_r q41]) rfl ?_
        refine sv_ia C (n := 45) (by decide +kernel) (by rw [kq41]; rfl) (by decide) (by omega) (by omega) ?_
        have w42 := sv_ok.el hokc36 (k := ((9 * v2) + X : Int).toNat) (t := .int) (n := 45) (by rw [kq41]; rfl) (by omega)
        generalize hw42 : σ35 q41 ((9 * v2) + X).toNat = xw42 at w42 ⊢
        have w42 : sv_in xw42 := w42
        refine sv_is C (n := 45) (by decide +kernel) (by rw [kq41]; rfl) (by decide) (by omega) (by omega) ⟨by omega, by omega⟩ (hTA _ (by rw [kq41]; decide)) hokc36 (fun hok43 => ?_)
        have hI45 := hIc36.up (a := q41) (k := ((9 * v1) + X : Int).toNat) (z := xw42) (by rw [kq41]; exact trivial)
        have hF46 := hFc36.up (a := q41) (k := ((9 * v1) + X : Int).toNat) (z := xw42) (by rw [kq41]; decide)
        generalize eσ44 : sv_up σ35 q41 ((9 * v1) + X : Int).toNat xw42 = σ44 at hok43 hI45 hF46 ⊢
        have t47 : σ44 a 0 = (q1 : Int) + 1 := by rw [← eσ44, sv_up_a (sv_ne k_a kq41 (by decide))]; exact kc36_0
        have t48 : σ44 a 1 = (q8 : Int) + 1 := by rw [← eσ44, sv_up_a (sv_ne k_a kq41 (by decide))]; exact kc36_1
        have t49 : σ44 a 2 = (q16 : Int) + 1 := by rw [← eσ44, sv_up_a (sv_ne k_a kq41 (by decide))]; exact kc36_2
        have t50 : σ44 a 3 = (q25 : Int) + 1 := by rw [← eσ44, sv_up_a (sv_ne k_a kq41 (by decide))]; exact kc36_3
        have t51 : σ44 a 4 = (q41 : Int) + 1 := by rw [← eσ44, sv_up_a (sv_ne k_a kq41 (by decide))]; exact eq41
        refine sv_go C.1 C.2.1 [(.iinc 3 1, 3)] (pc' := 81) (by decide +kernel) rfl (lv' := [(0, sv_r a), (1, sv_i v1), (2, sv_i v2), (3, sv_i (X + 1))]) (st' := []) rfl ?_
        refine sv_goto C.1 C.2.1 (off := (-31)) (tgt := 50) (by decide +kernel) (by decide) ?_
        exact ih38 (X + 1) σ44 hok43 hI45 hF46 t47 t48 t49 t50 (by omega) (by omega)
  exact L37 (((9 - 0 : Int)).toNat + 1) 0 σ28 hok27 hI29 hF30 t31 t32 t33 t34 (by omega) (by omega)

theorem fl_X11_175 : Cond.fieldLink RX11 175 "SaintsRoadModel" "size" "I" ∈ lw_good := sv_mem 1122 (by decide +kernel) rfl
set_option maxHeartbeats 4000000 in
set_option maxRecDepth 100000 in
theorem ct_X11_byteAt (l : Launch) (g : sv_G) (A : Nat → Prop) (ty : Nat → Nat) (σ : Nat → Nat → Int) (hok : sv_ok ty σ) (hI : sv_inv sp_1 ty σ) (a : Nat) (k_a : ty a = 10) (hs : σ a 18 = 0) (v : Int) (hv : 0 ≤ v ∧ v ≤ 4000) : sv_M l yX11_byteAt cX11_byteAt 2 (some .int) { frames := 0, cells := 0, slots := 0, locals := 0 } g A ty σ [sv_r a, sv_i v] (fun r σ' => σ = σ' ∧ r = [sv_i (0)]) := by
  refine sv_enter (by decide) (Nat.le_of_ble_eq_true rfl) ?_
  intro p e s m args below meth c C hr
  have C : sv_C g A RX11 cX11_byteAt 2 p s m args meth c := C
  have hr : meth.sig.returnType = (some .int) := hr
  refine sv_same (st2 := []) (lv2 := [(0, sv_r a), (1, sv_i v)]) rfl rfl ?_
  refine sv_go C.1 C.2.1 [(.iload_n 1, 1), (.aload_n 0, 1)] (pc' := 2) (by decide +kernel) rfl (lv' := [(0, sv_r a), (1, sv_i v)]) (st' := [sv_r a, sv_i v]) rfl ?_
  refine sv_gf C (index := 175) (ci := 10) (k := 18) (r := (RX11, TX11, 47)) (v := sv_i 0) (by decide +kernel) (by rw [k_a]; rfl) rfl (by decide) fl_X11_175 (congrArg sv_i hs) ?_
  refine sv_icmp_t C.1 C.2.1 (cnd := .ge) (off := 16) (tgt := 21) (by decide +kernel) (by decide) ⟨by omega, by omega⟩ ⟨by omega, by omega⟩ (show 0 ≤ v by omega) ?_
  refine sv_go C.1 C.2.1 [(.iconst 0, 1)] (pc' := 22) (by decide +kernel) rfl (lv' := [(0, sv_r a), (1, sv_i v)]) (st' := [sv_i 0]) rfl ?_
  exact sv_iret C hr (by decide +kernel) hok (⟨rfl, rfl⟩)

theorem fl_X11_178 : Cond.fieldLink RX11 178 "SaintsRoadModel" "behind" "I" ∈ lw_good := sv_mem 1124 (by decide +kernel) rfl
theorem fl_X11_172 : Cond.fieldLink RX11 172 "SaintsRoadModel" "begins" "I" ∈ lw_good := sv_mem 1123 (by decide +kernel) rfl
theorem ml_X11_181 : Cond.methodLink RX11 181 yX11_byteAt ∈ lw_good := sv_mem 1278 (by decide +kernel) rfl
theorem co_X11_byteAt : Cond.code yX11_byteAt cX11_byteAt 2 (some .int) ∈ lw_good := sv_mem 1281 (by decide +kernel) rfl
theorem im_X11_byteAt : Cond.instanceMethod yX11_byteAt ∈ lw_good := sv_mem 1280 (by decide +kernel) rfl
theorem se_X11_byteAt : Cond.selects RX11 yX11_byteAt yX11_byteAt ∈ lw_good := sv_mem 47 (by decide +kernel) rfl
theorem fl_X11_184 : Cond.fieldLink RX11 184 "SaintsRoadModel" "hand" "I" ∈ lw_good := sv_mem 1125 (by decide +kernel) rfl
set_option maxHeartbeats 4000000 in
set_option maxRecDepth 100000 in
theorem ct_X11_scan (l : Launch) (g : sv_G) (A : Nat → Prop) (ty : Nat → Nat) (σ : Nat → Nat → Int) (hok : sv_ok ty σ) (hTA : ∀ q, ty q ≠ 0 → A q) (hI : sv_inv sp_1 ty σ) (a : Nat) (k_a : ty a = 10) (hs : σ a 18 = 0) (hb : σ a 20 = 0) : sv_M l yX11_scan cX11_scan 2 none { frames := 1, cells := 0, slots := 0, locals := 21 } g A ty σ [sv_r a] (fun r σ' => r = [] ∧ sv_inv sp_1 ty σ' ∧ sv_off [10] ty σ σ' ∧ σ' a 21 = 0) := by
  refine sv_enter (by decide) (Nat.le_of_ble_eq_true rfl) ?_
  intro p e s m args below meth c C hr
  have C : sv_C g A RX11 cX11_scan 2 p s m args meth c := C
  have hr : meth.sig.returnType = none := hr
  have hF : sv_off [10] ty σ σ := sv_off.rf
  refine sv_same (st2 := []) (lv2 := [(0, sv_r a)]) rfl rfl ?_
  refine sv_go C.1 C.2.1 [(.aload_n 0, 1)] (pc' := 1) (by decide +kernel) rfl (lv' := [(0, sv_r a)]) (st' := [sv_r a]) rfl ?_
  refine sv_gf C (index := 178) (ci := 10) (k := 20) (r := (RX11, TX11, 47)) (v := sv_i 0) (by decide +kernel) (by rw [k_a]; rfl) rfl (by decide) fl_X11_178 (congrArg sv_i hb) ?_
  refine sv_go C.1 C.2.1 [(.aload_n 0, 1)] (pc' := 5) (by decide +kernel) rfl (lv' := [(0, sv_r a)]) (st' := [sv_r a, sv_i 0]) rfl ?_
  refine sv_gf C (index := 175) (ci := 10) (k := 18) (r := (RX11, TX11, 47)) (v := sv_i 0) (by decide +kernel) (by rw [k_a]; rfl) rfl (by decide) fl_X11_175 (congrArg sv_i hs) ?_
  refine sv_icmp_t C.1 C.2.1 (cnd := .ge) (off := 44) (tgt := 52) (by decide +kernel) (by decide) ⟨by omega, by omega⟩ ⟨by omega, by omega⟩ (show 0 ≤ 0 by omega) ?_
  refine sv_go C.1 C.2.1 [(.aload_n 0, 1), (.aload_n 0, 1)] (pc' := 54) (by decide +kernel) rfl (lv' := [(0, sv_r a)]) (st' := [sv_r a, sv_r a]) rfl ?_
  refine sv_gf C (index := 178) (ci := 10) (k := 20) (r := (RX11, TX11, 47)) (v := sv_i 0) (by decide +kernel) (by rw [k_a]; rfl) rfl (by decide) fl_X11_178 (congrArg sv_i hb) ?_
  refine sv_pf C (index := 172) (ci := 10) (k := 19) (r := (RX11, TX11, 47)) (z := 0) (by decide +kernel) (by rw [k_a]; rfl) rfl (by decide) rfl fl_X11_172 rfl (Or.inl rfl) ⟨by omega, by omega⟩ (hTA _ (by rw [k_a]; decide)) hok (fun hok1 => ?_)
  have hI3 := hI.up (a := a) (k := 19) (z := 0) (by rw [k_a]; exact trivial)
  have hF4 := hF.up (a := a) (k := 19) (z := 0) (by rw [k_a]; decide)
  generalize eσ2 : sv_up σ a 19 0 = σ2 at hok1 hI3 hF4 ⊢
  have t5 : σ2 a 18 = 0 := by rw [← eσ2, sv_up_k (by decide)]; exact hs
  have t6 : σ2 a 20 = 0 := by rw [← eσ2, sv_up_k (by decide)]; exact hb
  have t7 : σ2 a 19 = 0 := by rw [← eσ2]; exact sv_up_s _ _ _ _
  refine sv_go C.1 C.2.1 [(.aload_n 0, 1), (.aload_n 0, 1)] (pc' := 62) (by decide +kernel) rfl (lv' := [(0, sv_r a)]) (st' := [sv_r a, sv_r a]) rfl ?_
  refine sv_gf C (index := 172) (ci := 10) (k := 19) (r := (RX11, TX11, 47)) (v := sv_i 0) (by decide +kernel) (by rw [k_a]; rfl) rfl (by decide) fl_X11_172 (congrArg sv_i t7) ?_
  refine sv_cv C (index := 181) (k := 1) (rest := []) (ci := 10) (r := (RX11, TX11, 47)) (by decide +kernel) (ct_X11_byteAt l g A ty σ2 hok1 hI3 a k_a t5 (0) ⟨by omega, by omega⟩) ⟨co_X11_byteAt, in_X11, ⟨by decide, by decide, by decide +kernel⟩, Nat.le_of_ble_eq_true rfl, Nat.le_of_ble_eq_true rfl⟩ ml_X11_181 im_X11_byteAt se_X11_byteAt (by rw [k_a]; rfl) rfl rfl rfl (Nat.le_of_ble_eq_true rfl) ⟨Nat.zero_le _, Nat.zero_le _⟩ (fun r9 σ10 hpo8 hok11 => ?_)
  obtain ⟨rfl, rfl⟩ := hpo8
  refine sv_same (st2 := [sv_i 0]) (lv2 := [(0, sv_r a)]) rfl rfl ?_
  refine sv_go C.1 C.2.1 [(.istore_n 1, 1), (.aload_n 0, 1)] (pc' := 70) (by decide +kernel) rfl (lv' := [(0, sv_r a), (1, sv_i 0)]) (st' := [sv_r a]) rfl ?_
  refine sv_gf C (index := 172) (ci := 10) (k := 19) (r := (RX11, TX11, 47)) (v := sv_i 0) (by decide +kernel) (by rw [k_a]; rfl) rfl (by decide) fl_X11_172 (congrArg sv_i t7) ?_
  refine sv_go C.1 C.2.1 [(.aload_n 0, 1)] (pc' := 74) (by decide +kernel) rfl (lv' := [(0, sv_r a), (1, sv_i 0)]) (st' := [sv_r a, sv_i 0]) rfl ?_
  refine sv_gf C (index := 175) (ci := 10) (k := 18) (r := (RX11, TX11, 47)) (v := sv_i 0) (by decide +kernel) (by rw [k_a]; rfl) rfl (by decide) fl_X11_175 (congrArg sv_i t5) ?_
  refine sv_icmp_f C.1 C.2.1 (cnd := .ne) (off := 11) (tgt := 88) (by decide +kernel) (by decide) ⟨by omega, by omega⟩ ⟨by omega, by omega⟩ (show ¬ (0 ≠ 0) by omega) ?_
  refine sv_go C.1 C.2.1 [(.aload_n 0, 1), (.iconst 0, 1)] (pc' := 82) (by decide +kernel) rfl (lv' := [(0, sv_r a), (1, sv_i 0)]) (st' := [sv_i 0, sv_r a]) rfl ?_
  refine sv_pf C (index := 184) (ci := 10) (k := 21) (r := (RX11, TX11, 47)) (z := 0) (by decide +kernel) (by rw [k_a]; rfl) rfl (by decide) rfl fl_X11_184 rfl (Or.inl rfl) ⟨by omega, by omega⟩ (hTA _ (by rw [k_a]; decide)) hok11 (fun hok12 => ?_)
  have hI14 := hI3.up (a := a) (k := 21) (z := 0) (by rw [k_a]; exact trivial)
  have hF15 := hF4.up (a := a) (k := 21) (z := 0) (by rw [k_a]; decide)
  generalize eσ13 : sv_up σ2 a 21 0 = σ13 at hok12 hI14 hF15 ⊢
  have t16 : σ13 a 18 = 0 := by rw [← eσ13, sv_up_k (by decide)]; exact t5
  have t17 : σ13 a 20 = 0 := by rw [← eσ13, sv_up_k (by decide)]; exact t6
  have t18 : σ13 a 19 = 0 := by rw [← eσ13, sv_up_k (by decide)]; exact t7
  have t19 : σ13 a 21 = 0 := by rw [← eσ13]; exact sv_up_s _ _ _ _
  refine sv_goto C.1 C.2.1 (off := 194) (tgt := 279) (by decide +kernel) (by decide) ?_
  exact sv_vret C hr (by decide +kernel) hok12 (⟨rfl, hI14, hF15, t19⟩)

theorem ml_X11_235 : Cond.methodLink RX11 235 yX11_clear ∈ lw_good := sv_mem 1270 (by decide +kernel) rfl
theorem co_X11_clear : Cond.code yX11_clear cX11_clear 3 none ∈ lw_good := sv_mem 1273 (by decide +kernel) rfl
theorem im_X11_clear : Cond.instanceMethod yX11_clear ∈ lw_good := sv_mem 1272 (by decide +kernel) rfl
theorem se_X11_clear : Cond.selects RX11 yX11_clear yX11_clear ∈ lw_good := sv_mem 45 (by decide +kernel) rfl
theorem fl_X11_239 : Cond.fieldLink RX11 239 "SaintsRoadModel" "hasYield" "Z" ∈ lw_good := sv_mem 1129 (by decide +kernel) rfl
theorem fl_X11_243 : Cond.fieldLink RX11 243 "SaintsRoadModel" "hasLent" "Z" ∈ lw_good := sv_mem 1130 (by decide +kernel) rfl
theorem ml_X11_229 : Cond.methodLink RX11 229 yX11_scan ∈ lw_good := sv_mem 1274 (by decide +kernel) rfl
theorem co_X11_scan : Cond.code yX11_scan cX11_scan 2 none ∈ lw_good := sv_mem 1277 (by decide +kernel) rfl
theorem im_X11_scan : Cond.instanceMethod yX11_scan ∈ lw_good := sv_mem 1276 (by decide +kernel) rfl
theorem se_X11_scan : Cond.selects RX11 yX11_scan yX11_scan ∈ lw_good := sv_mem 46 (by decide +kernel) rfl
theorem fl_X11_109 : Cond.fieldLink RX11 109 "SaintsRoadModel" "hasWax" "[Z" ∈ lw_good := sv_mem 1131 (by decide +kernel) rfl
set_option maxHeartbeats 4000000 in
set_option maxRecDepth 100000 in
theorem ct_X11_readCalendar (l : Launch) (g : sv_G) (A : Nat → Prop) (ty : Nat → Nat) (σ : Nat → Nat → Int) (hok : sv_ok ty σ) (hTA : ∀ q, ty q ≠ 0 → A q) (hI : sv_inv sp_1 ty σ) (a : Nat) (k_a : ty a = 10) (hs : σ a 18 = 0) : sv_M l yX11_readCalendar cX11_readCalendar 2 none { frames := 2, cells := 0, slots := 0, locals := 42 } g A ty σ [sv_r a] (fun r σ' => r = [] ∧ sv_inv sp_1 ty σ' ∧ sv_off [10, 60, 61, 62, 63, 64, 87] ty σ σ') := by
  refine sv_enter (by decide) (Nat.le_of_ble_eq_true rfl) ?_
  intro p e s m args below meth c C hr
  have C : sv_C g A RX11 cX11_readCalendar 2 p s m args meth c := C
  have hr : meth.sig.returnType = none := hr
  have hF : sv_off [10, 60, 61, 62, 63, 64, 87] ty σ σ := sv_off.rf
  refine sv_same (st2 := []) (lv2 := [(0, sv_r a)]) rfl rfl ?_
  refine sv_go C.1 C.2.1 [(.aload_n 0, 1), (.iconst 4, 1)] (pc' := 2) (by decide +kernel) rfl (lv' := [(0, sv_r a)]) (st' := [sv_i 4, sv_r a]) rfl ?_
  refine sv_cv C (index := 235) (k := 1) (rest := []) (ci := 10) (r := (RX11, TX11, 47)) (by decide +kernel) (ct_X11_clear l g A ty σ hok hTA hI a k_a (4) ⟨by omega, by omega⟩) ⟨co_X11_clear, in_X11, ⟨by decide, by decide, by decide +kernel⟩, Nat.le_of_ble_eq_true rfl, Nat.le_of_ble_eq_true rfl⟩ ml_X11_235 im_X11_clear se_X11_clear (by rw [k_a]; rfl) rfl rfl rfl (Nat.le_of_ble_eq_true rfl) ⟨Nat.zero_le _, Nat.zero_le _⟩ (fun r2 σ3 hpo1 hok4 => ?_)
  obtain ⟨rfl, hIu5, hFu5⟩ := hpo1
  have hGu5 := hF.tr hFu5 (by decide)
  have t6 : σ3 a 18 = 0 := (hFu5.at k_a (by decide)).trans hs
  refine sv_same (st2 := []) (lv2 := [(0, sv_r a)]) rfl rfl ?_
  refine sv_go C.1 C.2.1 [(.aload_n 0, 1), (.iconst 0, 1)] (pc' := 7) (by decide +kernel) rfl (lv' := [(0, sv_r a)]) (st' := [sv_i 0, sv_r a]) rfl ?_
  refine sv_pf C (index := 239) (ci := 10) (k := 25) (r := (RX11, TX11, 47)) (z := 0) (by decide +kernel) (by rw [k_a]; rfl) rfl (by decide) rfl fl_X11_239 rfl (Or.inr (Or.inl rfl)) ⟨by omega, by omega⟩ (hTA _ (by rw [k_a]; decide)) hok4 (fun hok7 => ?_)
  have hI9 := hIu5.up (a := a) (k := 25) (z := 0) (by rw [k_a]; exact trivial)
  have hF10 := hGu5.up (a := a) (k := 25) (z := 0) (by rw [k_a]; decide)
  generalize eσ8 : sv_up σ3 a 25 0 = σ8 at hok7 hI9 hF10 ⊢
  have t11 : σ8 a 18 = 0 := by rw [← eσ8, sv_up_k (by decide)]; exact t6
  have t12 : σ8 a 25 = 0 := by rw [← eσ8]; exact sv_up_s _ _ _ _
  refine sv_go C.1 C.2.1 [(.aload_n 0, 1), (.iconst 0, 1)] (pc' := 12) (by decide +kernel) rfl (lv' := [(0, sv_r a)]) (st' := [sv_i 0, sv_r a]) rfl ?_
  refine sv_pf C (index := 243) (ci := 10) (k := 26) (r := (RX11, TX11, 47)) (z := 0) (by decide +kernel) (by rw [k_a]; rfl) rfl (by decide) rfl fl_X11_243 rfl (Or.inr (Or.inl rfl)) ⟨by omega, by omega⟩ (hTA _ (by rw [k_a]; decide)) hok7 (fun hok13 => ?_)
  have hI15 := hI9.up (a := a) (k := 26) (z := 0) (by rw [k_a]; exact trivial)
  have hF16 := hF10.up (a := a) (k := 26) (z := 0) (by rw [k_a]; decide)
  generalize eσ14 : sv_up σ8 a 26 0 = σ14 at hok13 hI15 hF16 ⊢
  have t17 : σ14 a 18 = 0 := by rw [← eσ14, sv_up_k (by decide)]; exact t11
  have t18 : σ14 a 25 = 0 := by rw [← eσ14, sv_up_k (by decide)]; exact t12
  have t19 : σ14 a 26 = 0 := by rw [← eσ14]; exact sv_up_s _ _ _ _
  refine sv_go C.1 C.2.1 [(.iconst 0, 1), (.istore_n 1, 1)] (pc' := 17) (by decide +kernel) rfl (lv' := [(0, sv_r a), (1, sv_i 0)]) (st' := []) rfl ?_
  have L22 : ∀ (n : Nat) (X : Int) (σ20 : Nat → Nat → Int), (sv_ok ty σ20) → (sv_inv sp_1 ty σ20) → (sv_off [10, 60, 61, 62, 63, 64, 87] ty σ σ20) → (σ20 a 18 = 0) → (σ20 a 25 = 0) → (σ20 a 26 = 0) → (0 ≤ X ∧ X ≤ 9) → (9 - X) < (n : Int) → sv_E p l e { frames := 2, cells := 0, slots := 0, locals := 42 } s m args below meth c 2 g A ty (fun r σ' => r = [] ∧ sv_inv sp_1 ty σ' ∧ sv_off [10, 60, 61, 62, 63, 64, 87] ty σ σ') σ20 17 [(0, sv_r a), (1, sv_i X)] [] := by
    intro n
    induction n with
    | zero => intro X σ20 hokc21 hIc21 hFc21 kc21_0 kc21_1 kc21_2 hX hmu; exact absurd hmu (by omega)
    | succ n ih23 =>
      intro X σ20 hokc21 hIc21 hFc21 kc21_0 kc21_1 kc21_2 hX hmu
      refine sv_go C.1 C.2.1 [(.iload_n 1, 1), (.bipush 9, 2)] (pc' := 20) (by decide +kernel) rfl (lv' := [(0, sv_r a), (1, sv_i X)]) (st' := [sv_i 9, sv_i X]) rfl ?_
      refine sv_icmp C.1 C.2.1 (cnd := .ge) (off := 16) (tgt := 36) (by decide +kernel) (by decide) ⟨by omega, by omega⟩ ⟨by omega, by omega⟩ (fun (h24 : 9 ≤ X) => ?_) (fun (h24 : ¬ (9 ≤ X)) => ?_)
      · refine sv_go C.1 C.2.1 [(.aload_n 0, 1), (.iconst 0, 1)] (pc' := 38) (by decide +kernel) rfl (lv' := [(0, sv_r a), (1, sv_i X)]) (st' := [sv_i 0, sv_r a]) rfl ?_
        refine sv_pf C (index := 178) (ci := 10) (k := 20) (r := (RX11, TX11, 47)) (z := 0) (by decide +kernel) (by rw [k_a]; rfl) rfl (by decide) rfl fl_X11_178 rfl (Or.inl rfl) ⟨by omega, by omega⟩ (hTA _ (by rw [k_a]; decide)) hokc21 (fun hok25 => ?_)
        have hI27 := hIc21.up (a := a) (k := 20) (z := 0) (by rw [k_a]; exact trivial)
        have hF28 := hFc21.up (a := a) (k := 20) (z := 0) (by rw [k_a]; decide)
        generalize eσ26 : sv_up σ20 a 20 0 = σ26 at hok25 hI27 hF28 ⊢
        have t29 : σ26 a 18 = 0 := by rw [← eσ26, sv_up_k (by decide)]; exact kc21_0
        have t30 : σ26 a 25 = 0 := by rw [← eσ26, sv_up_k (by decide)]; exact kc21_1
        have t31 : σ26 a 26 = 0 := by rw [← eσ26, sv_up_k (by decide)]; exact kc21_2
        have t32 : σ26 a 20 = 0 := by rw [← eσ26]; exact sv_up_s _ _ _ _
        refine sv_go C.1 C.2.1 [(.aload_n 0, 1)] (pc' := 42) (by decide +kernel) rfl (lv' := [(0, sv_r a), (1, sv_i X)]) (st' := [sv_r a]) rfl ?_
        refine sv_cv C (index := 229) (k := 0) (rest := []) (ci := 10) (r := (RX11, TX11, 47)) (by decide +kernel) (ct_X11_scan l g A ty σ26 hok25 hTA hI27 a k_a t29 t32) ⟨co_X11_scan, in_X11, ⟨by decide, by decide, by decide +kernel⟩, Nat.le_of_ble_eq_true rfl, Nat.le_of_ble_eq_true rfl⟩ ml_X11_229 im_X11_scan se_X11_scan (by rw [k_a]; rfl) rfl rfl rfl (Nat.le_of_ble_eq_true rfl) ⟨Nat.zero_le _, Nat.zero_le _⟩ (fun r34 σ35 hpo33 hok36 => ?_)
        obtain ⟨rfl, hIu37, hFu37, xu37⟩ := hpo33
        have hGu37 := hF28.tr hFu37 (by decide)
        refine sv_same (st2 := []) (lv2 := [(0, sv_r a), (1, sv_i X)]) rfl rfl ?_
        refine sv_go C.1 C.2.1 [(.aload_n 0, 1)] (pc' := 46) (by decide +kernel) rfl (lv' := [(0, sv_r a), (1, sv_i X)]) (st' := [sv_r a]) rfl ?_
        refine sv_gf C (index := 184) (ci := 10) (k := 21) (r := (RX11, TX11, 47)) (v := sv_i 0) (by decide +kernel) (by rw [k_a]; rfl) rfl (by decide) fl_X11_184 (congrArg sv_i xu37) ?_
        refine sv_if_t C.1 C.2.1 (cnd := .eq) (off := 29) (tgt := 78) (by decide +kernel) (by decide) ⟨by omega, by omega⟩ (show 0 = 0 by omega) ?_
        exact sv_vret C hr (by decide +kernel) hok36 (⟨rfl, hIu37, hGu37⟩)
      · refine sv_go C.1 C.2.1 [(.aload_n 0, 1)] (pc' := 24) (by decide +kernel) rfl (lv' := [(0, sv_r a), (1, sv_i X)]) (st' := [sv_r a]) rfl ?_
        obtain ⟨q38, eq38, kq38⟩ := hIc21.ref (k := 27) k_a rfl
        refine sv_gf C (index := 109) (ci := 10) (k := 27) (r := (RX11, TX11, 47)) (v := sv_r q38) (by decide +kernel) (by rw [k_a]; rfl) rfl (by decide) fl_X11_109 (congrArg sv_a eq38) ?_
        refine sv_go C.1 C.2.1 [(.iload_n 1, 1), (.iconst 0, 1)] (pc' := 29) (by decide +kernel) rfl (lv' := [(0, sv_r a), (1, sv_i X)]) (st' := [sv_i 0, sv_i X, sv_r q38]) rfl ?_
        refine sv_zs C (n := 9) (by decide +kernel) (by rw [kq38]; rfl) (by decide) (by omega) (by omega) ⟨by omega, by omega⟩ (hTA _ (by rw [kq38]; decide)) hokc21 (fun hok39 => ?_)
        have hI41 := hIc21.up (a := q38) (k := (X : Int).toNat) (z := 0) (by rw [kq38]; exact trivial)
        have hF42 := hFc21.up (a := q38) (k := (X : Int).toNat) (z := 0) (by rw [kq38]; decide)
        generalize eσ40 : sv_up σ20 q38 (X : Int).toNat 0 = σ40 at hok39 hI41 hF42 ⊢
        have t43 : σ40 a 18 = 0 := by rw [← eσ40, sv_up_a (sv_ne k_a kq38 (by decide))]; exact kc21_0
        have t44 : σ40 a 25 = 0 := by rw [← eσ40, sv_up_a (sv_ne k_a kq38 (by decide))]; exact kc21_1
        have t45 : σ40 a 26 = 0 := by rw [← eσ40, sv_up_a (sv_ne k_a kq38 (by decide))]; exact kc21_2
        have t46 : σ40 a 27 = (q38 : Int) + 1 := by rw [← eσ40, sv_up_a (sv_ne k_a kq38 (by decide))]; exact eq38
        refine sv_go C.1 C.2.1 [(.iinc 1 1, 3)] (pc' := 33) (by decide +kernel) rfl (lv' := [(0, sv_r a), (1, sv_i (X + 1))]) (st' := []) rfl ?_
        refine sv_goto C.1 C.2.1 (off := (-16)) (tgt := 17) (by decide +kernel) (by decide) ?_
        exact ih23 (X + 1) σ40 hok39 hI41 hF42 t43 t44 t45 (by omega) (by omega)
  exact L22 (((9 - 0 : Int)).toNat + 1) 0 σ14 hok13 hI15 hF16 t17 t18 t19 (by omega) (by omega)

theorem ml_X11_280 : Cond.methodLink RX11 280 yX11_readCalendar ∈ lw_good := sv_mem 1266 (by decide +kernel) rfl
theorem co_X11_readCalendar : Cond.code yX11_readCalendar cX11_readCalendar 2 none ∈ lw_good := sv_mem 1269 (by decide +kernel) rfl
theorem im_X11_readCalendar : Cond.instanceMethod yX11_readCalendar ∈ lw_good := sv_mem 1268 (by decide +kernel) rfl
theorem se_X11_readCalendar : Cond.selects RX11 yX11_readCalendar yX11_readCalendar ∈ lw_good := sv_mem 44 (by decide +kernel) rfl
theorem ml_X11_283 : Cond.methodLink RX11 283 yX11_become ∈ lw_good := sv_mem 1344 (by decide +kernel) rfl
theorem co_X11_become : Cond.code yX11_become cX11_become 7 none ∈ lw_good := sv_mem 1347 (by decide +kernel) rfl
theorem im_X11_become : Cond.instanceMethod yX11_become ∈ lw_good := sv_mem 1346 (by decide +kernel) rfl
theorem se_X11_become : Cond.selects RX11 yX11_become yX11_become ∈ lw_good := sv_mem 58 (by decide +kernel) rfl
set_option maxHeartbeats 4000000 in
set_option maxRecDepth 100000 in
theorem ct_X11_calendar (l : Launch) (g : sv_G) (A : Nat → Prop) (ty : Nat → Nat) (σ : Nat → Nat → Int) (hok : sv_ok ty σ) (hTA : ∀ q, ty q ≠ 0 → A q) (hI : sv_inv sp_1 ty σ) (hZ : sv_inv sp_0 ty σ) (a : Nat) (k_a : ty a = 10) (v1 : Int) (hv1 : sv_in v1) : sv_MW l yX11_calendar cX11_calendar 3 (some .int) [(33, 37, 40, 95)] { frames := 3, cells := 0, slots := 0, locals := 63 } g A ty σ [sv_r a, sv_i v1] (fun r σ' => r = [sv_i (fx_cal v1)] ∧ sv_off [10, 60, 61, 62, 63, 64, 87] ty σ σ') := by
  refine sv_enterW (by decide) (Nat.le_of_ble_eq_true rfl) ?_
  intro p e s m args below meth c C hr
  have C : sv_C g A RX11 cX11_calendar 3 p s m args meth c := C
  have hr : meth.sig.returnType = (some .int) := hr
  have hF : sv_off [10, 60, 61, 62, 63, 64, 87] ty σ σ := sv_off.rf
  refine sv_same (st2 := []) (lv2 := [(0, sv_r a), (1, sv_i v1)]) rfl rfl ?_
  refine sv_go C.1 C.2.1 [(.aload_n 0, 1), (.aload_n 0, 1)] (pc' := 2) (by decide +kernel) rfl (lv' := [(0, sv_r a), (1, sv_i v1)]) (st' := [sv_r a, sv_r a]) rfl ?_
  have t1 : σ a 17 = 0 := by have q := hZ.num (k := 17) k_a rfl; omega
  refine sv_gf C (index := 269) (ci := 10) (k := 17) (r := (RX11, TX11, 47)) (v := sv_i 0) (by decide +kernel) (by rw [k_a]; rfl) rfl (by decide) fl_X11_269 (congrArg sv_i t1) ?_
  refine sv_pf C (index := 175) (ci := 10) (k := 18) (r := (RX11, TX11, 47)) (z := 0) (by decide +kernel) (by rw [k_a]; rfl) rfl (by decide) rfl fl_X11_175 rfl (Or.inl rfl) ⟨by omega, by omega⟩ (hTA _ (by rw [k_a]; decide)) hok (fun hok2 => ?_)
  have hI4 := hI.up (a := a) (k := 18) (z := 0) (by rw [k_a]; exact trivial)
  have hF5 := hF.up (a := a) (k := 18) (z := 0) (by rw [k_a]; decide)
  generalize eσ3 : sv_up σ a 18 0 = σ3 at hok2 hI4 hF5 ⊢
  have t6 : σ3 a 17 = 0 := by rw [← eσ3, sv_up_k (by decide)]; exact t1
  have t7 : σ3 a 18 = 0 := by rw [← eσ3]; exact sv_up_s _ _ _ _
  refine sv_go C.1 C.2.1 [(.aload_n 0, 1), (.iconst 0, 1)] (pc' := 10) (by decide +kernel) rfl (lv' := [(0, sv_r a), (1, sv_i v1)]) (st' := [sv_i 0, sv_r a]) rfl ?_
  refine sv_pf C (index := 269) (ci := 10) (k := 17) (r := (RX11, TX11, 47)) (z := 0) (by decide +kernel) (by rw [k_a]; rfl) rfl (by decide) rfl fl_X11_269 rfl (Or.inl rfl) ⟨by omega, by omega⟩ (hTA _ (by rw [k_a]; decide)) hok2 (fun hok8 => ?_)
  have hI10 := hI4.up (a := a) (k := 17) (z := 0) (by rw [k_a]; exact trivial)
  have hF11 := hF5.up (a := a) (k := 17) (z := 0) (by rw [k_a]; decide)
  generalize eσ9 : sv_up σ3 a 17 0 = σ9 at hok8 hI10 hF11 ⊢
  have t12 : σ9 a 18 = 0 := by rw [← eσ9, sv_up_k (by decide)]; exact t7
  have t13 : σ9 a 17 = 0 := by rw [← eσ9]; exact sv_up_s _ _ _ _
  refine sv_go C.1 C.2.1 [(.iload_n 1, 1)] (pc' := 14) (by decide +kernel) rfl (lv' := [(0, sv_r a), (1, sv_i v1)]) (st' := [sv_i v1]) rfl ?_
  refine sv_cs C (index := 277) (k := 1) (rest := []) (by decide +kernel) (ct_X11_isPlace l g A ty σ9 hok8 (v1) ⟨by omega, by omega⟩) ⟨co_X11_isPlace, in_X11, ⟨by decide, by decide, by decide +kernel⟩, Nat.le_of_ble_eq_true rfl, Nat.le_of_ble_eq_true rfl⟩ ml_X11_277 st_X11_isPlace rfl rfl (Nat.le_of_ble_eq_true rfl) ⟨Nat.zero_le _, Nat.zero_le _⟩ (fun r15 σ16 hpo14 hok17 => ?_)
  obtain ⟨rfl, ⟨h18, rfl⟩ | ⟨h18, rfl⟩⟩ := hpo14
  · refine sv_same (st2 := [sv_i 1]) (lv2 := [(0, sv_r a), (1, sv_i v1)]) rfl rfl ?_
    refine sv_if_t C.1 C.2.1 (cnd := .ne) (off := 6) (tgt := 23) (by decide +kernel) (by decide) ⟨by omega, by omega⟩ (show 1 ≠ 0 by omega) ?_
    refine sv_go C.1 C.2.1 [(.aload_n 0, 1), (.iconst 0, 1)] (pc' := 25) (by decide +kernel) rfl (lv' := [(0, sv_r a), (1, sv_i v1)]) (st' := [sv_i 0, sv_r a]) rfl ?_
    refine sv_pf C (index := 169) (ci := 10) (k := 23) (r := (RX11, TX11, 47)) (z := 0) (by decide +kernel) (by rw [k_a]; rfl) rfl (by decide) rfl fl_X11_169 rfl (Or.inl rfl) ⟨by omega, by omega⟩ (hTA _ (by rw [k_a]; decide)) hok17 (fun hok19 => ?_)
    have hI21 := hI10.up (a := a) (k := 23) (z := 0) (by rw [k_a]; exact trivial)
    have hF22 := hF11.up (a := a) (k := 23) (z := 0) (by rw [k_a]; decide)
    generalize eσ20 : sv_up σ9 a 23 0 = σ20 at hok19 hI21 hF22 ⊢
    have t23 : σ20 a 18 = 0 := by rw [← eσ20, sv_up_k (by decide)]; exact t12
    have t24 : σ20 a 17 = 0 := by rw [← eσ20, sv_up_k (by decide)]; exact t13
    have t25 : σ20 a 23 = 0 := by rw [← eσ20]; exact sv_up_s _ _ _ _
    refine sv_go C.1 C.2.1 [(.aload_n 0, 1), (.iconst (-1), 1)] (pc' := 30) (by decide +kernel) rfl (lv' := [(0, sv_r a), (1, sv_i v1)]) (st' := [sv_i ((-1)), sv_r a]) rfl ?_
    refine sv_pf C (index := 105) (ci := 10) (k := 24) (r := (RX11, TX11, 47)) (z := (-1)) (by decide +kernel) (by rw [k_a]; rfl) rfl (by decide) rfl fl_X11_105 rfl (Or.inl rfl) ⟨by omega, by omega⟩ (hTA _ (by rw [k_a]; decide)) hok19 (fun hok26 => ?_)
    have hI28 := hI21.up (a := a) (k := 24) (z := (-1)) (by rw [k_a]; exact trivial)
    have hF29 := hF22.up (a := a) (k := 24) (z := (-1)) (by rw [k_a]; decide)
    generalize eσ27 : sv_up σ20 a 24 ((-1)) = σ27 at hok26 hI28 hF29 ⊢
    have t30 : σ27 a 18 = 0 := by rw [← eσ27, sv_up_k (by decide)]; exact t23
    have t31 : σ27 a 17 = 0 := by rw [← eσ27, sv_up_k (by decide)]; exact t24
    have t32 : σ27 a 23 = 0 := by rw [← eσ27, sv_up_k (by decide)]; exact t25
    have t33 : σ27 a 24 = (-1) := by rw [← eσ27]; exact sv_up_s _ _ _ _
    refine sv_go C.1 C.2.1 [(.aload_n 0, 1)] (pc' := 34) (by decide +kernel) rfl (lv' := [(0, sv_r a), (1, sv_i v1)]) (st' := [sv_r a]) rfl ?_
    refine sv_cv C (index := 280) (k := 0) (rest := []) (ci := 10) (r := (RX11, TX11, 47)) (by decide +kernel) (ct_X11_readCalendar l g A ty σ27 hok26 hTA hI28 a k_a t30) ⟨co_X11_readCalendar, in_X11, ⟨by decide, by decide, by decide +kernel⟩, Nat.le_of_ble_eq_true rfl, Nat.le_of_ble_eq_true rfl⟩ ml_X11_280 im_X11_readCalendar se_X11_readCalendar (by rw [k_a]; rfl) rfl rfl rfl (Nat.le_of_ble_eq_true rfl) ⟨Nat.zero_le _, Nat.zero_le _⟩ (fun r35 σ36 hpo34 hok37 => ?_)
    obtain ⟨rfl, hIu38, hFu38⟩ := hpo34
    have hGu38 := hF29.tr hFu38 (by decide)
    refine sv_same (st2 := []) (lv2 := [(0, sv_r a), (1, sv_i v1)]) rfl rfl ?_
    refine sv_goto C.1 C.2.1 (off := 6) (tgt := 43) (by decide +kernel) (by decide) ?_
    refine sv_go C.1 C.2.1 [(.aload_n 0, 1), (.iload_n 1, 1), (.iconst 4, 1)] (pc' := 46) (by decide +kernel) rfl (lv' := [(0, sv_r a), (1, sv_i v1)]) (st' := [sv_i 4, sv_i v1, sv_r a]) rfl ?_
    refine sv_cv C (index := 283) (k := 2) (rest := []) (ci := 10) (r := (RX11, TX11, 47)) (by decide +kernel) (ct_X11_become l g A ty σ36 hok37 hTA hIu38 a k_a (v1) ⟨by omega, by omega⟩ (4) ⟨by omega, by omega⟩) ⟨co_X11_become, in_X11, ⟨by decide, by decide, by decide +kernel⟩, Nat.le_of_ble_eq_true rfl, Nat.le_of_ble_eq_true rfl⟩ ml_X11_283 im_X11_become se_X11_become (by rw [k_a]; rfl) rfl rfl rfl (Nat.le_of_ble_eq_true rfl) ⟨Nat.zero_le _, Nat.zero_le _⟩ (fun r40 σ41 hpo39 hok42 => ?_)
    obtain ⟨rfl, hIu43, hFu43⟩ := hpo39
    have hGu43 := hGu38.tr hFu43 (by decide)
    refine sv_same (st2 := []) (lv2 := [(0, sv_r a), (1, sv_i v1)]) rfl rfl ?_
    refine sv_go C.1 C.2.1 [(.aload_n 0, 1)] (pc' := 50) (by decide +kernel) rfl (lv' := [(0, sv_r a), (1, sv_i v1)]) (st' := [sv_r a]) rfl ?_
    obtain ⟨q44, eq44, kq44⟩ := hIu43.ref (k := 0) k_a rfl
    refine sv_gf C (index := 47) (ci := 10) (k := 0) (r := (RX11, TX11, 47)) (v := sv_r q44) (by decide +kernel) (by rw [k_a]; rfl) rfl (by decide) fl_X11_47 (congrArg sv_a eq44) ?_
    refine sv_go C.1 C.2.1 [(.iload_n 1, 1)] (pc' := 54) (by decide +kernel) rfl (lv' := [(0, sv_r a), (1, sv_i v1)]) (st' := [sv_i v1, sv_r q44]) rfl ?_
    refine sv_ia C (n := 5) (by decide +kernel) (by rw [kq44]; rfl) (by decide) (by omega) (by omega) ?_
    have w45 : σ41 q44 v1.toNat = 0 := by have q := hIu43.num (k := (v1 : Int).toNat) kq44 rfl; omega
    rw [w45]
    exact sv_iret C hr (by decide +kernel) hok42 (⟨congrArg (fun q => [sv_i q]) (by first | omega | (unfold fx_cal; omega)), hGu43⟩)
  · refine sv_same (st2 := [sv_i 0]) (lv2 := [(0, sv_r a), (1, sv_i v1)]) rfl rfl ?_
    refine sv_if_f C.1 C.2.1 (cnd := .ne) (off := 6) (tgt := 23) (by decide +kernel) (by decide) ⟨by omega, by omega⟩ (show ¬ (0 ≠ 0) by omega) ?_
    refine sv_go C.1 C.2.1 [(.bipush (-2), 2)] (pc' := 22) (by decide +kernel) rfl (lv' := [(0, sv_r a), (1, sv_i v1)]) (st' := [sv_i ((-2))]) rfl ?_
    exact sv_iret C hr (by decide +kernel) hok17 (⟨congrArg (fun q => [sv_i q]) (by first | omega | (unfold fx_cal; omega)), hF11⟩)
