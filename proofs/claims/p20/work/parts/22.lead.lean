set_option maxHeartbeats 4000000 in
set_option maxRecDepth 100000 in
theorem sf_X11_ownDay (l : Launch) (g : sv_G) (A : Nat → Prop) (ty : Nat → Nat) (σ : Nat → Nat → Int) (hok : sv_ok ty σ) (hTA : ∀ q, ty q ≠ 0 → A q) (hI : sv_inv sp_1 ty σ) (a : Nat) (k_a : ty a = 10) (p1 : Int) (h_p1 : 0 ≤ p1 ∧ p1 ≤ 4) (y : Int) (h_y : 1 ≤ y ∧ y ≤ 2000) (f : Int) (h_f : 0 ≤ f ∧ f ≤ 59) : sv_M l yX11_ownDay cX11_ownDay 6 (some .int) { frames := 4, cells := 0, slots := 0, locals := 86 } g A ty σ [sv_r a, sv_i p1, sv_i y, sv_i f] (fun r σ' => σ = σ' ∧ ∃ rv : Int, r = [sv_i rv] ∧ ((-637) ≤ rv ∧ rv ≤ 3427)) := by
  refine sv_enter (by decide) (Nat.le_of_ble_eq_true rfl) ?_
  intro p e s m args below meth c C hr
  have C : sv_C g A RX11 cX11_ownDay 6 p s m args meth c := C
  have hr : meth.sig.returnType = (some .int) := hr
  have hF : sv_ofx [] [] ty σ σ := sv_ofx.rf
  refine sv_same (st2 := []) (lv2 := [(0, sv_r a), (1, sv_i p1), (2, sv_i y), (3, sv_i f)]) rfl rfl ?_
  refine sv_go C.1 C.2.1 [(.iload_n 1, 1), (.iload_n 3, 1)] (pc' := 2) (by decide +kernel) rfl (lv' := [(0, sv_r a), (1, sv_i p1), (2, sv_i y), (3, sv_i f)]) (st' := [sv_i f, sv_i p1]) rfl ?_
  refine sv_cs C (index := 166) (k := 2) (rest := []) (by decide +kernel) (sf_X11_at l g A ty σ hok hTA hI (p1) ⟨by omega, by omega⟩ (f) ⟨by omega, by omega⟩) ⟨co_X11_at, in_X11, ⟨by decide, by decide, by decide +kernel⟩, Nat.le_of_ble_eq_true rfl, Nat.le_of_ble_eq_true rfl⟩ ml_X11_166 st_X11_at rfl rfl (Nat.le_of_ble_eq_true rfl) ⟨Nat.zero_le _, Nat.zero_le _⟩ (fun r2 σ3 hpo1 hok4 => ?_)
  obtain ⟨rfl, ⟨vu5, rfl, hvu5⟩⟩ := hpo1
  refine sv_same (st2 := [sv_i vu5]) (lv2 := [(0, sv_r a), (1, sv_i p1), (2, sv_i y), (3, sv_i f)]) rfl rfl ?_
  refine sv_go C.1 C.2.1 [(.istore 4, 2), (.iload_n 2, 1)] (pc' := 8) (by decide +kernel) rfl (lv' := [(0, sv_r a), (1, sv_i p1), (2, sv_i y), (3, sv_i f), (4, sv_i vu5)]) (st' := [sv_i y]) rfl ?_
  refine sv_i2l C.1 C.2.1 (by decide +kernel) ⟨by omega, by omega⟩ ?_
  refine sv_go C.1 C.2.1 [(.aload_n 0, 1)] (pc' := 10) (by decide +kernel) rfl (lv' := [(0, sv_r a), (1, sv_i p1), (2, sv_i y), (3, sv_i f), (4, sv_i vu5)]) (st' := [sv_r a, sv_l y]) rfl ?_
  obtain ⟨v6, ev6, kv6⟩ := hI.ref (k := 9) k_a rfl
  refine sv_gf C (index := 75) (ci := 10) (k := 9) (r := (RX11, TX11, 47)) (v := sv_r v6) (by decide +kernel) (by rw [k_a]; rfl) rfl (by decide) fl_X11_75 (congrArg sv_a ev6) ?_
  refine sv_go C.1 C.2.1 [(.iload 4, 2)] (pc' := 15) (by decide +kernel) rfl (lv' := [(0, sv_r a), (1, sv_i p1), (2, sv_i y), (3, sv_i f), (4, sv_i vu5)]) (st' := [sv_i vu5, sv_r v6, sv_l y]) rfl ?_
  refine sv_ia C (n := 300) (by decide +kernel) (by rw [kv6]; rfl) (by decide) (by omega) (by omega) ?_
  obtain ⟨v7, ev7, hv7⟩ := sv_rde hok4 (a := v6) (k := (vu5 : Int).toNat) (n := 300) (by rw [kv6]; rfl) (by omega)
  rw [ev7]
  refine sv_i2l C.1 C.2.1 (by decide +kernel) ⟨by omega, by omega⟩ ?_
  refine sv_go C.1 C.2.1 [(.aload_n 0, 1)] (pc' := 18) (by decide +kernel) rfl (lv' := [(0, sv_r a), (1, sv_i p1), (2, sv_i y), (3, sv_i f), (4, sv_i vu5)]) (st' := [sv_r a, sv_l v7, sv_l y]) rfl ?_
  obtain ⟨v8, ev8, kv8⟩ := hI.ref (k := 10) k_a rfl
  refine sv_gf C (index := 78) (ci := 10) (k := 10) (r := (RX11, TX11, 47)) (v := sv_r v8) (by decide +kernel) (by rw [k_a]; rfl) rfl (by decide) fl_X11_78 (congrArg sv_a ev8) ?_
  refine sv_go C.1 C.2.1 [(.iload 4, 2)] (pc' := 23) (by decide +kernel) rfl (lv' := [(0, sv_r a), (1, sv_i p1), (2, sv_i y), (3, sv_i f), (4, sv_i vu5)]) (st' := [sv_i vu5, sv_r v8, sv_l v7, sv_l y]) rfl ?_
  refine sv_ia C (n := 300) (by decide +kernel) (by rw [kv8]; rfl) (by decide) (by omega) (by omega) ?_
  obtain ⟨v9, ev9, hv9⟩ := sv_rde hok4 (a := v8) (k := (vu5 : Int).toNat) (n := 300) (by rw [kv8]; rfl) (by omega)
  rw [ev9]
  refine sv_i2l C.1 C.2.1 (by decide +kernel) ⟨by omega, by omega⟩ ?_
  refine sv_cs C (index := 9) (k := 3) (rest := []) (by decide +kernel) (ct_X11_in l g A ty σ hok4 (y) ⟨by omega, by omega⟩ (v7) ⟨by omega, by omega⟩ (v9) ⟨by omega, by omega⟩) ⟨co_X11_in, in_X11, ⟨by decide, by decide, by decide +kernel⟩, Nat.le_of_ble_eq_true rfl, Nat.le_of_ble_eq_true rfl⟩ ml_X11_9 st_X11_in rfl rfl (Nat.le_of_ble_eq_true rfl) ⟨Nat.zero_le _, Nat.zero_le _⟩ (fun r11 σ12 hpo10 hok13 => ?_)
  obtain ⟨rfl, ⟨h14, rfl⟩ | ⟨h14, rfl⟩⟩ := hpo10
  · refine sv_same (st2 := [sv_i 1]) (lv2 := [(0, sv_r a), (1, sv_i p1), (2, sv_i y), (3, sv_i f), (4, sv_i vu5)]) rfl rfl ?_
    refine sv_if_t C.1 C.2.1 (cnd := .ne) (off := 6) (tgt := 34) (by decide +kernel) (by decide) ⟨by omega, by omega⟩ (show 1 ≠ 0 by omega) ?_
    refine sv_go C.1 C.2.1 [(.aload_n 0, 1)] (pc' := 35) (by decide +kernel) rfl (lv' := [(0, sv_r a), (1, sv_i p1), (2, sv_i y), (3, sv_i f), (4, sv_i vu5)]) (st' := [sv_r a]) rfl ?_
    obtain ⟨v15, ev15, kv15⟩ := hI.ref (k := 5) k_a rfl
    refine sv_gf C (index := 63) (ci := 10) (k := 5) (r := (RX11, TX11, 47)) (v := sv_r v15) (by decide +kernel) (by rw [k_a]; rfl) rfl (by decide) fl_X11_63 (congrArg sv_a ev15) ?_
    refine sv_go C.1 C.2.1 [(.iload 4, 2)] (pc' := 40) (by decide +kernel) rfl (lv' := [(0, sv_r a), (1, sv_i p1), (2, sv_i y), (3, sv_i f), (4, sv_i vu5)]) (st' := [sv_i vu5, sv_r v15]) rfl ?_
    refine sv_ia C (n := 300) (by decide +kernel) (by rw [kv15]; rfl) (by decide) (by omega) (by omega) ?_
    obtain ⟨v16, ev16, hv16⟩ := sv_rde hok13 (a := v15) (k := (vu5 : Int).toNat) (n := 300) (by rw [kv15]; rfl) (by omega)
    rw [ev16]
    refine sv_if C.1 C.2.1 (cnd := .ne) (off := 48) (tgt := 89) (by decide +kernel) (by decide) ⟨by omega, by omega⟩ (fun (h17 : v16 ≠ 0) => ?_) (fun (h17 : ¬ (v16 ≠ 0)) => ?_)
    · refine sv_go C.1 C.2.1 [(.aload_n 0, 1)] (pc' := 90) (by decide +kernel) rfl (lv' := [(0, sv_r a), (1, sv_i p1), (2, sv_i y), (3, sv_i f), (4, sv_i vu5)]) (st' := [sv_r a]) rfl ?_
      refine sv_gf C (index := 63) (ci := 10) (k := 5) (r := (RX11, TX11, 47)) (v := sv_r v15) (by decide +kernel) (by rw [k_a]; rfl) rfl (by decide) fl_X11_63 (congrArg sv_a ev15) ?_
      refine sv_go C.1 C.2.1 [(.iload 4, 2)] (pc' := 95) (by decide +kernel) rfl (lv' := [(0, sv_r a), (1, sv_i p1), (2, sv_i y), (3, sv_i f), (4, sv_i vu5)]) (st' := [sv_i vu5, sv_r v15]) rfl ?_
      refine sv_ia C (n := 300) (by decide +kernel) (by rw [kv15]; rfl) (by decide) (by omega) (by omega) ?_
      rw [ev16]
      refine sv_go C.1 C.2.1 [(.iconst 1, 1)] (pc' := 97) (by decide +kernel) rfl (lv' := [(0, sv_r a), (1, sv_i p1), (2, sv_i y), (3, sv_i f), (4, sv_i vu5)]) (st' := [sv_i 1, sv_i v16]) rfl ?_
      refine sv_icmp C.1 C.2.1 (cnd := .ne) (off := 42) (tgt := 139) (by decide +kernel) (by decide) ⟨by omega, by omega⟩ ⟨by omega, by omega⟩ (fun (h18 : v16 ≠ 1) => ?_) (fun (h18 : ¬ (v16 ≠ 1)) => ?_)
      · refine sv_go C.1 C.2.1 [(.iload_n 2, 1), (.aload_n 0, 1)] (pc' := 141) (by decide +kernel) rfl (lv' := [(0, sv_r a), (1, sv_i p1), (2, sv_i y), (3, sv_i f), (4, sv_i vu5)]) (st' := [sv_r a, sv_i y]) rfl ?_
        obtain ⟨v19, ev19, kv19⟩ := hI.ref (k := 7) k_a rfl
        refine sv_gf C (index := 69) (ci := 10) (k := 7) (r := (RX11, TX11, 47)) (v := sv_r v19) (by decide +kernel) (by rw [k_a]; rfl) rfl (by decide) fl_X11_69 (congrArg sv_a ev19) ?_
        refine sv_go C.1 C.2.1 [(.iload 4, 2)] (pc' := 146) (by decide +kernel) rfl (lv' := [(0, sv_r a), (1, sv_i p1), (2, sv_i y), (3, sv_i f), (4, sv_i vu5)]) (st' := [sv_i vu5, sv_r v19, sv_i y]) rfl ?_
        refine sv_ia C (n := 300) (by decide +kernel) (by rw [kv19]; rfl) (by decide) (by omega) (by omega) ?_
        obtain ⟨v20, ev20, hv20⟩ := sv_rdn hI (k := (vu5 : Int).toNat) kv19 rfl
        rw [ev20]
        refine sv_go C.1 C.2.1 [(.iconst 1, 1)] (pc' := 148) (by decide +kernel) rfl (lv' := [(0, sv_r a), (1, sv_i p1), (2, sv_i y), (3, sv_i f), (4, sv_i vu5)]) (st' := [sv_i 1, sv_i v20, sv_i y]) rfl ?_
        refine sv_cs C (index := 27) (k := 3) (rest := []) (by decide +kernel) (sf_X11_dayOf l g A ty σ hok13 hTA hI (y) ⟨by omega, by omega⟩ (v20) ⟨by omega, by omega⟩ (1) ⟨by omega, by omega⟩) ⟨co_X11_dayOf, in_X11, ⟨by decide, by decide, by decide +kernel⟩, Nat.le_of_ble_eq_true rfl, Nat.le_of_ble_eq_true rfl⟩ ml_X11_27 st_X11_dayOf rfl rfl (Nat.le_of_ble_eq_true rfl) ⟨Nat.zero_le _, Nat.zero_le _⟩ (fun r22 σ23 hpo21 hok24 => ?_)
        obtain ⟨rfl, ⟨vu25, rfl, hvu25, ivu25_0⟩⟩ := hpo21
        have hp26 := ivu25_0 (by omega) (by omega)
        refine sv_same (st2 := [sv_i vu25]) (lv2 := [(0, sv_r a), (1, sv_i p1), (2, sv_i y), (3, sv_i f), (4, sv_i vu5)]) rfl rfl ?_
        refine sv_go C.1 C.2.1 [(.istore 5, 2)] (pc' := 153) (by decide +kernel) rfl (lv' := [(0, sv_r a), (1, sv_i p1), (2, sv_i y), (3, sv_i f), (4, sv_i vu5), (5, sv_i vu25)]) (st' := []) rfl ?_
        have L28 : ∀ (n : Nat) (Xg27_l5 : Int), (0 ≤ Xg27_l5 ∧ Xg27_l5 ≤ 2805) → (vu25 ≤ Xg27_l5) → (Xg27_l5 ≤ vu25 + (7 - dy_wd y vu25) % 7) → (vu25 + 7 - Xg27_l5) < (n : Int) → sv_E p l e { frames := 4, cells := 0, slots := 0, locals := 86 } s m args below meth c 6 g A ty (fun r σ' => σ = σ' ∧ ∃ rv : Int, r = [sv_i rv] ∧ ((-637) ≤ rv ∧ rv ≤ 3427)) σ 153 [(0, sv_r a), (2, sv_i y), (4, sv_i vu5), (5, sv_i Xg27_l5)] [] := by
          intro n
          induction n with
          | zero => intro Xg27_l5 hXg27_l5 hX0 hX hmu; exact absurd hmu (by omega)
          | succ n ih29 =>
            intro Xg27_l5 hXg27_l5 hX0 hX hmu
            have hwd := dy_wd_in y vu25
            have hsh := dy_wd_sh y vu25 (Xg27_l5 - vu25)
            rw [show vu25 + (Xg27_l5 - vu25) = Xg27_l5 by omega] at hsh
            refine sv_go C.1 C.2.1 [(.iload_n 2, 1), (.iload 5, 2)] (pc' := 156) (by decide +kernel) rfl (lv' := [(0, sv_r a), (2, sv_i y), (4, sv_i vu5), (5, sv_i Xg27_l5)]) (st' := [sv_i Xg27_l5, sv_i y]) rfl ?_
            refine sv_cs C (index := 31) (k := 2) (rest := []) (by decide +kernel) (ct_X11_weekday l g A ty σ hok24 (y) ⟨by omega, by omega⟩ (Xg27_l5) ⟨by omega, by omega⟩) ⟨co_X11_weekday, in_X11, ⟨by decide, by decide, by decide +kernel⟩, Nat.le_of_ble_eq_true rfl, Nat.le_of_ble_eq_true rfl⟩ ml_X11_31 st_X11_weekday rfl rfl (Nat.le_of_ble_eq_true rfl) ⟨Nat.zero_le _, Nat.zero_le _⟩ (fun r31 σ32 hpo30 hok33 => ?_)
            obtain ⟨rfl, rfl⟩ := hpo30
            have hn35 := dy_wd_in y Xg27_l5
            refine sv_same (st2 := [sv_i (dy_wd y Xg27_l5)]) (lv2 := [(0, sv_r a), (2, sv_i y), (4, sv_i vu5), (5, sv_i Xg27_l5)]) rfl rfl ?_
            refine sv_if C.1 C.2.1 (cnd := .eq) (off := 9) (tgt := 168) (by decide +kernel) (by decide) ⟨by omega, by omega⟩ (fun (h36 : (dy_wd y Xg27_l5) = 0) => ?_) (fun (h36 : ¬ ((dy_wd y Xg27_l5) = 0)) => ?_)
            · refine sv_go C.1 C.2.1 [(.iload 5, 2), (.bipush 7, 2), (.aload_n 0, 1)] (pc' := 173) (by decide +kernel) rfl (lv' := [(0, sv_r a), (2, sv_i y), (4, sv_i vu5), (5, sv_i Xg27_l5)]) (st' := [sv_r a, sv_i 7, sv_i Xg27_l5]) rfl ?_
              obtain ⟨v37, ev37, kv37⟩ := hI.ref (k := 6) k_a rfl
              refine sv_gf C (index := 66) (ci := 10) (k := 6) (r := (RX11, TX11, 47)) (v := sv_r v37) (by decide +kernel) (by rw [k_a]; rfl) rfl (by decide) fl_X11_66 (congrArg sv_a ev37) ?_
              refine sv_go C.1 C.2.1 [(.iload 4, 2)] (pc' := 178) (by decide +kernel) rfl (lv' := [(0, sv_r a), (2, sv_i y), (4, sv_i vu5), (5, sv_i Xg27_l5)]) (st' := [sv_i vu5, sv_r v37, sv_i 7, sv_i Xg27_l5]) rfl ?_
              refine sv_ia C (n := 300) (by decide +kernel) (by rw [kv37]; rfl) (by decide) (by omega) (by omega) ?_
              obtain ⟨v38, ev38, hv38⟩ := sv_rdn hI (k := (vu5 : Int).toNat) kv37 rfl
              rw [ev38]
              refine sv_go C.1 C.2.1 [(.iconst 1, 1), (.isub, 1), (.imul, 1), (.iadd, 1), (.istore 5, 2), (.iload 5, 2), (.iload_n 2, 1), (.aload_n 0, 1)] (pc' := 189) (by decide +kernel) rfl (lv' := [(0, sv_r a), (2, sv_i y), (4, sv_i vu5), (5, sv_i (Xg27_l5 + (7 * (v38 - 1))))]) (st' := [sv_r a, sv_i y, sv_i (Xg27_l5 + (7 * (v38 - 1)))]) rfl ?_
              refine sv_gf C (index := 69) (ci := 10) (k := 7) (r := (RX11, TX11, 47)) (v := sv_r v19) (by decide +kernel) (by rw [k_a]; rfl) rfl (by decide) fl_X11_69 (congrArg sv_a ev19) ?_
              refine sv_go C.1 C.2.1 [(.iload 4, 2)] (pc' := 194) (by decide +kernel) rfl (lv' := [(0, sv_r a), (2, sv_i y), (4, sv_i vu5), (5, sv_i (Xg27_l5 + (7 * (v38 - 1))))]) (st' := [sv_i vu5, sv_r v19, sv_i y, sv_i (Xg27_l5 + (7 * (v38 - 1)))]) rfl ?_
              refine sv_ia C (n := 300) (by decide +kernel) (by rw [kv19]; rfl) (by decide) (by omega) (by omega) ?_
              rw [ev20]
              refine sv_go C.1 C.2.1 [(.iconst 1, 1)] (pc' := 196) (by decide +kernel) rfl (lv' := [(0, sv_r a), (2, sv_i y), (4, sv_i vu5), (5, sv_i (Xg27_l5 + (7 * (v38 - 1))))]) (st' := [sv_i 1, sv_i v20, sv_i y, sv_i (Xg27_l5 + (7 * (v38 - 1)))]) rfl ?_
              refine sv_cs C (index := 27) (k := 3) (rest := [sv_i (Xg27_l5 + (7 * (v38 - 1)))]) (by decide +kernel) (sf_X11_dayOf l g A ty σ hok33 hTA hI (y) ⟨by omega, by omega⟩ (v20) ⟨by omega, by omega⟩ (1) ⟨by omega, by omega⟩) ⟨co_X11_dayOf, in_X11, ⟨by decide, by decide, by decide +kernel⟩, Nat.le_of_ble_eq_true rfl, Nat.le_of_ble_eq_true rfl⟩ ml_X11_27 st_X11_dayOf rfl rfl (Nat.le_of_ble_eq_true rfl) ⟨Nat.zero_le _, Nat.zero_le _⟩ (fun r40 σ41 hpo39 hok42 => ?_)
              obtain ⟨rfl, ⟨vu43, rfl, hvu43, ivu43_0⟩⟩ := hpo39
              have hp44 := ivu43_0 (by omega) (by omega)
              refine sv_same (st2 := [sv_i vu43, sv_i (Xg27_l5 + (7 * (v38 - 1)))]) (lv2 := [(0, sv_r a), (2, sv_i y), (4, sv_i vu5), (5, sv_i (Xg27_l5 + (7 * (v38 - 1))))]) rfl rfl ?_
              refine sv_go C.1 C.2.1 [(.iload_n 2, 1), (.aload_n 0, 1)] (pc' := 201) (by decide +kernel) rfl (lv' := [(0, sv_r a), (2, sv_i y), (4, sv_i vu5), (5, sv_i (Xg27_l5 + (7 * (v38 - 1))))]) (st' := [sv_r a, sv_i y, sv_i vu43, sv_i (Xg27_l5 + (7 * (v38 - 1)))]) rfl ?_
              refine sv_gf C (index := 69) (ci := 10) (k := 7) (r := (RX11, TX11, 47)) (v := sv_r v19) (by decide +kernel) (by rw [k_a]; rfl) rfl (by decide) fl_X11_69 (congrArg sv_a ev19) ?_
              refine sv_go C.1 C.2.1 [(.iload 4, 2)] (pc' := 206) (by decide +kernel) rfl (lv' := [(0, sv_r a), (2, sv_i y), (4, sv_i vu5), (5, sv_i (Xg27_l5 + (7 * (v38 - 1))))]) (st' := [sv_i vu5, sv_r v19, sv_i y, sv_i vu43, sv_i (Xg27_l5 + (7 * (v38 - 1)))]) rfl ?_
              refine sv_ia C (n := 300) (by decide +kernel) (by rw [kv19]; rfl) (by decide) (by omega) (by omega) ?_
              rw [ev20]
              refine sv_cs C (index := 24) (k := 2) (rest := [sv_i vu43, sv_i (Xg27_l5 + (7 * (v38 - 1)))]) (by decide +kernel) (ct_X11_monthDays l g A ty σ hok42 (y) ⟨by omega, by omega⟩ (v20) ⟨by omega, by omega⟩) ⟨co_X11_monthDays, in_X11, ⟨by decide, by decide, by decide +kernel⟩, Nat.le_of_ble_eq_true rfl, Nat.le_of_ble_eq_true rfl⟩ ml_X11_24 st_X11_monthDays rfl rfl (Nat.le_of_ble_eq_true rfl) ⟨Nat.zero_le _, Nat.zero_le _⟩ (fun r46 σ47 hpo45 hok48 => ?_)
              obtain ⟨rfl, rfl⟩ := hpo45
              have hn50 := dy_md_in y v20
              refine sv_same (st2 := [sv_i (dy_md y v20), sv_i vu43, sv_i (Xg27_l5 + (7 * (v38 - 1)))]) (lv2 := [(0, sv_r a), (2, sv_i y), (4, sv_i vu5), (5, sv_i (Xg27_l5 + (7 * (v38 - 1))))]) rfl rfl ?_
              refine sv_go C.1 C.2.1 [(.iadd, 1)] (pc' := 211) (by decide +kernel) rfl (lv' := [(0, sv_r a), (2, sv_i y), (4, sv_i vu5), (5, sv_i (Xg27_l5 + (7 * (v38 - 1))))]) (st' := [sv_i (vu43 + (dy_md y v20)), sv_i (Xg27_l5 + (7 * (v38 - 1)))]) rfl ?_
              refine sv_icmp C.1 C.2.1 (cnd := .ge) (off := 8) (tgt := 219) (by decide +kernel) (by decide) ⟨by omega, by omega⟩ ⟨by omega, by omega⟩ (fun (h51 : (vu43 + (dy_md y v20)) ≤ (Xg27_l5 + (7 * (v38 - 1)))) => ?_) (fun (h51 : ¬ ((vu43 + (dy_md y v20)) ≤ (Xg27_l5 + (7 * (v38 - 1))))) => ?_)
              · refine sv_go C.1 C.2.1 [(.bipush (-10), 2)] (pc' := 221) (by decide +kernel) rfl (lv' := [(0, sv_r a), (2, sv_i y), (4, sv_i vu5), (5, sv_i (Xg27_l5 + (7 * (v38 - 1))))]) (st' := [sv_i ((-10))]) rfl ?_
                exact sv_iret C hr (by decide +kernel) hok48 (⟨rfl, ⟨_, rfl, ⟨by omega, by omega⟩⟩⟩)
              · refine sv_go C.1 C.2.1 [(.iload 5, 2)] (pc' := 216) (by decide +kernel) rfl (lv' := [(0, sv_r a), (2, sv_i y), (4, sv_i vu5), (5, sv_i (Xg27_l5 + (7 * (v38 - 1))))]) (st' := [sv_i (Xg27_l5 + (7 * (v38 - 1)))]) rfl ?_
                refine sv_goto C.1 C.2.1 (off := 5) (tgt := 221) (by decide +kernel) (by decide) ?_
                exact sv_iret C hr (by decide +kernel) hok48 (⟨rfl, ⟨_, rfl, ⟨by omega, by omega⟩⟩⟩)
            · refine sv_go C.1 C.2.1 [(.iinc 5 1, 3)] (pc' := 165) (by decide +kernel) rfl (lv' := [(0, sv_r a), (2, sv_i y), (4, sv_i vu5), (5, sv_i (Xg27_l5 + 1))]) (st' := []) rfl ?_
              refine sv_goto C.1 C.2.1 (off := (-12)) (tgt := 153) (by decide +kernel) (by decide) ?_
              exact ih29 (Xg27_l5 + 1) ⟨by omega, by omega⟩ (by omega) (by omega) (by omega)
        refine sv_pick [0, 2, 4, 5] (lv2 := [(0, sv_r a), (2, sv_i y), (4, sv_i vu5), (5, sv_i vu25)]) rfl ?_
        exact L28 (((vu25 + 7 - vu25 : Int)).toNat + 1) vu25 ⟨by omega, by omega⟩ (by omega) (by omega) (by omega)
      · refine sv_go C.1 C.2.1 [(.iload_n 2, 1)] (pc' := 101) (by decide +kernel) rfl (lv' := [(0, sv_r a), (1, sv_i p1), (2, sv_i y), (3, sv_i f), (4, sv_i vu5)]) (st' := [sv_i y]) rfl ?_
        refine sv_cs C (index := 34) (k := 1) (rest := []) (by decide +kernel) (ct_X11_easterOf l g A ty σ hok13 (y) ⟨by omega, by omega⟩) ⟨co_X11_easterOf, in_X11, ⟨by decide, by decide, by decide +kernel⟩, Nat.le_of_ble_eq_true rfl, Nat.le_of_ble_eq_true rfl⟩ ml_X11_34 st_X11_easterOf rfl rfl (Nat.le_of_ble_eq_true rfl) ⟨Nat.zero_le _, Nat.zero_le _⟩ (fun r53 σ54 hpo52 hok55 => ?_)
        obtain ⟨rfl, rfl⟩ := hpo52
        have hn57 := dy_ea_in y
        refine sv_same (st2 := [sv_i (dy_ea y)]) (lv2 := [(0, sv_r a), (1, sv_i p1), (2, sv_i y), (3, sv_i f), (4, sv_i vu5)]) rfl rfl ?_
        refine sv_go C.1 C.2.1 [(.aload_n 0, 1)] (pc' := 105) (by decide +kernel) rfl (lv' := [(0, sv_r a), (1, sv_i p1), (2, sv_i y), (3, sv_i f), (4, sv_i vu5)]) (st' := [sv_r a, sv_i (dy_ea y)]) rfl ?_
        obtain ⟨v58, ev58, kv58⟩ := hI.ref (k := 6) k_a rfl
        refine sv_gf C (index := 66) (ci := 10) (k := 6) (r := (RX11, TX11, 47)) (v := sv_r v58) (by decide +kernel) (by rw [k_a]; rfl) rfl (by decide) fl_X11_66 (congrArg sv_a ev58) ?_
        refine sv_go C.1 C.2.1 [(.iload 4, 2)] (pc' := 110) (by decide +kernel) rfl (lv' := [(0, sv_r a), (1, sv_i p1), (2, sv_i y), (3, sv_i f), (4, sv_i vu5)]) (st' := [sv_i vu5, sv_r v58, sv_i (dy_ea y)]) rfl ?_
        refine sv_ia C (n := 300) (by decide +kernel) (by rw [kv58]; rfl) (by decide) (by omega) (by omega) ?_
        obtain ⟨v59, ev59, hv59⟩ := sv_rdn hI (k := (vu5 : Int).toNat) kv58 rfl
        rw [ev59]
        refine sv_go C.1 C.2.1 [(.iadd, 1), (.istore 5, 2), (.iload 5, 2)] (pc' := 116) (by decide +kernel) rfl (lv' := [(0, sv_r a), (1, sv_i p1), (2, sv_i y), (3, sv_i f), (4, sv_i vu5), (5, sv_i ((dy_ea y) + v59))]) (st' := [sv_i ((dy_ea y) + v59)]) rfl ?_
        refine sv_i2l C.1 C.2.1 (by decide +kernel) ⟨by omega, by omega⟩ ?_
        refine sv_go C.1 C.2.1 [(.lconst 0, 1), (.iload_n 2, 1)] (pc' := 119) (by decide +kernel) rfl (lv' := [(0, sv_r a), (1, sv_i p1), (2, sv_i y), (3, sv_i f), (4, sv_i vu5), (5, sv_i ((dy_ea y) + v59))]) (st' := [sv_i y, sv_l 0, sv_l ((dy_ea y) + v59)]) rfl ?_
        refine sv_cs C (index := 16) (k := 1) (rest := [sv_l 0, sv_l ((dy_ea y) + v59)]) (by decide +kernel) (ct_X11_daysOf l g A ty σ hok55 (y) ⟨by omega, by omega⟩) ⟨co_X11_daysOf, in_X11, ⟨by decide, by decide, by decide +kernel⟩, Nat.le_of_ble_eq_true rfl, Nat.le_of_ble_eq_true rfl⟩ ml_X11_16 st_X11_daysOf rfl rfl (Nat.le_of_ble_eq_true rfl) ⟨Nat.zero_le _, Nat.zero_le _⟩ (fun r61 σ62 hpo60 hok63 => ?_)
        obtain ⟨rfl, rfl⟩ := hpo60
        have hn65 := dy_lp_in y
        refine sv_same (st2 := [sv_i (365 + dy_lp y), sv_l 0, sv_l ((dy_ea y) + v59)]) (lv2 := [(0, sv_r a), (1, sv_i p1), (2, sv_i y), (3, sv_i f), (4, sv_i vu5), (5, sv_i ((dy_ea y) + v59))]) rfl rfl ?_
        refine sv_i2l C.1 C.2.1 (by decide +kernel) ⟨by omega, by omega⟩ ?_
        refine sv_go C.1 C.2.1 [(.lconst 1, 1), (.lsub, 1)] (pc' := 125) (by decide +kernel) rfl (lv' := [(0, sv_r a), (1, sv_i p1), (2, sv_i y), (3, sv_i f), (4, sv_i vu5), (5, sv_i ((dy_ea y) + v59))]) (st' := [sv_l ((365 + dy_lp y) - 1), sv_l 0, sv_l ((dy_ea y) + v59)]) rfl ?_
        refine sv_cs C (index := 9) (k := 3) (rest := []) (by decide +kernel) (ct_X11_in l g A ty σ hok63 ((dy_ea y) + v59) ⟨by omega, by omega⟩ (0) ⟨by omega, by omega⟩ ((365 + dy_lp y) - 1) ⟨by omega, by omega⟩) ⟨co_X11_in, in_X11, ⟨by decide, by decide, by decide +kernel⟩, Nat.le_of_ble_eq_true rfl, Nat.le_of_ble_eq_true rfl⟩ ml_X11_9 st_X11_in rfl rfl (Nat.le_of_ble_eq_true rfl) ⟨Nat.zero_le _, Nat.zero_le _⟩ (fun r67 σ68 hpo66 hok69 => ?_)
        obtain ⟨rfl, ⟨h70, rfl⟩ | ⟨h70, rfl⟩⟩ := hpo66
        · refine sv_same (st2 := [sv_i 1]) (lv2 := [(0, sv_r a), (1, sv_i p1), (2, sv_i y), (3, sv_i f), (4, sv_i vu5), (5, sv_i ((dy_ea y) + v59))]) rfl rfl ?_
          refine sv_if_f C.1 C.2.1 (cnd := .eq) (off := 8) (tgt := 136) (by decide +kernel) (by decide) ⟨by omega, by omega⟩ (show ¬ (1 = 0) by omega) ?_
          refine sv_go C.1 C.2.1 [(.iload 5, 2)] (pc' := 133) (by decide +kernel) rfl (lv' := [(0, sv_r a), (1, sv_i p1), (2, sv_i y), (3, sv_i f), (4, sv_i vu5), (5, sv_i ((dy_ea y) + v59))]) (st' := [sv_i ((dy_ea y) + v59)]) rfl ?_
          refine sv_goto C.1 C.2.1 (off := 5) (tgt := 138) (by decide +kernel) (by decide) ?_
          exact sv_iret C hr (by decide +kernel) hok69 (⟨rfl, ⟨_, rfl, ⟨by omega, by omega⟩⟩⟩)
        · refine sv_same (st2 := [sv_i 0]) (lv2 := [(0, sv_r a), (1, sv_i p1), (2, sv_i y), (3, sv_i f), (4, sv_i vu5), (5, sv_i ((dy_ea y) + v59))]) rfl rfl ?_
          refine sv_if_t C.1 C.2.1 (cnd := .eq) (off := 8) (tgt := 136) (by decide +kernel) (by decide) ⟨by omega, by omega⟩ (show 0 = 0 by omega) ?_
          refine sv_go C.1 C.2.1 [(.bipush (-10), 2)] (pc' := 138) (by decide +kernel) rfl (lv' := [(0, sv_r a), (1, sv_i p1), (2, sv_i y), (3, sv_i f), (4, sv_i vu5), (5, sv_i ((dy_ea y) + v59))]) (st' := [sv_i ((-10))]) rfl ?_
          exact sv_iret C hr (by decide +kernel) hok69 (⟨rfl, ⟨_, rfl, ⟨by omega, by omega⟩⟩⟩)
    · refine sv_go C.1 C.2.1 [(.aload_n 0, 1)] (pc' := 45) (by decide +kernel) rfl (lv' := [(0, sv_r a), (1, sv_i p1), (2, sv_i y), (3, sv_i f), (4, sv_i vu5)]) (st' := [sv_r a]) rfl ?_
      obtain ⟨v71, ev71, kv71⟩ := hI.ref (k := 7) k_a rfl
      refine sv_gf C (index := 69) (ci := 10) (k := 7) (r := (RX11, TX11, 47)) (v := sv_r v71) (by decide +kernel) (by rw [k_a]; rfl) rfl (by decide) fl_X11_69 (congrArg sv_a ev71) ?_
      refine sv_go C.1 C.2.1 [(.iload 4, 2)] (pc' := 50) (by decide +kernel) rfl (lv' := [(0, sv_r a), (1, sv_i p1), (2, sv_i y), (3, sv_i f), (4, sv_i vu5)]) (st' := [sv_i vu5, sv_r v71]) rfl ?_
      refine sv_ia C (n := 300) (by decide +kernel) (by rw [kv71]; rfl) (by decide) (by omega) (by omega) ?_
      obtain ⟨v72, ev72, hv72⟩ := sv_rdn hI (k := (vu5 : Int).toNat) kv71 rfl
      rw [ev72]
      refine sv_go C.1 C.2.1 [(.iload_n 2, 1), (.aload_n 0, 1)] (pc' := 53) (by decide +kernel) rfl (lv' := [(0, sv_r a), (1, sv_i p1), (2, sv_i y), (3, sv_i f), (4, sv_i vu5)]) (st' := [sv_r a, sv_i y, sv_i v72]) rfl ?_
      obtain ⟨v73, ev73, kv73⟩ := hI.ref (k := 6) k_a rfl
      refine sv_gf C (index := 66) (ci := 10) (k := 6) (r := (RX11, TX11, 47)) (v := sv_r v73) (by decide +kernel) (by rw [k_a]; rfl) rfl (by decide) fl_X11_66 (congrArg sv_a ev73) ?_
      refine sv_go C.1 C.2.1 [(.iload 4, 2)] (pc' := 58) (by decide +kernel) rfl (lv' := [(0, sv_r a), (1, sv_i p1), (2, sv_i y), (3, sv_i f), (4, sv_i vu5)]) (st' := [sv_i vu5, sv_r v73, sv_i y, sv_i v72]) rfl ?_
      refine sv_ia C (n := 300) (by decide +kernel) (by rw [kv73]; rfl) (by decide) (by omega) (by omega) ?_
      obtain ⟨v74, ev74, hv74⟩ := sv_rdn hI (k := (vu5 : Int).toNat) kv73 rfl
      rw [ev74]
      refine sv_cs C (index := 24) (k := 2) (rest := [sv_i v72]) (by decide +kernel) (ct_X11_monthDays l g A ty σ hok13 (y) ⟨by omega, by omega⟩ (v74) ⟨by omega, by omega⟩) ⟨co_X11_monthDays, in_X11, ⟨by decide, by decide, by decide +kernel⟩, Nat.le_of_ble_eq_true rfl, Nat.le_of_ble_eq_true rfl⟩ ml_X11_24 st_X11_monthDays rfl rfl (Nat.le_of_ble_eq_true rfl) ⟨Nat.zero_le _, Nat.zero_le _⟩ (fun r76 σ77 hpo75 hok78 => ?_)
      obtain ⟨rfl, rfl⟩ := hpo75
      have hn80 := dy_md_in y v74
      refine sv_same (st2 := [sv_i (dy_md y v74), sv_i v72]) (lv2 := [(0, sv_r a), (1, sv_i p1), (2, sv_i y), (3, sv_i f), (4, sv_i vu5)]) rfl rfl ?_
      refine sv_icmp C.1 C.2.1 (cnd := .le) (off := 8) (tgt := 70) (by decide +kernel) (by decide) ⟨by omega, by omega⟩ ⟨by omega, by omega⟩ (fun (h81 : v72 ≤ (dy_md y v74)) => ?_) (fun (h81 : ¬ (v72 ≤ (dy_md y v74))) => ?_)
      · refine sv_go C.1 C.2.1 [(.iload_n 2, 1), (.aload_n 0, 1)] (pc' := 72) (by decide +kernel) rfl (lv' := [(0, sv_r a), (1, sv_i p1), (2, sv_i y), (3, sv_i f), (4, sv_i vu5)]) (st' := [sv_r a, sv_i y]) rfl ?_
        refine sv_gf C (index := 66) (ci := 10) (k := 6) (r := (RX11, TX11, 47)) (v := sv_r v73) (by decide +kernel) (by rw [k_a]; rfl) rfl (by decide) fl_X11_66 (congrArg sv_a ev73) ?_
        refine sv_go C.1 C.2.1 [(.iload 4, 2)] (pc' := 77) (by decide +kernel) rfl (lv' := [(0, sv_r a), (1, sv_i p1), (2, sv_i y), (3, sv_i f), (4, sv_i vu5)]) (st' := [sv_i vu5, sv_r v73, sv_i y]) rfl ?_
        refine sv_ia C (n := 300) (by decide +kernel) (by rw [kv73]; rfl) (by decide) (by omega) (by omega) ?_
        rw [ev74]
        refine sv_go C.1 C.2.1 [(.aload_n 0, 1)] (pc' := 79) (by decide +kernel) rfl (lv' := [(0, sv_r a), (1, sv_i p1), (2, sv_i y), (3, sv_i f), (4, sv_i vu5)]) (st' := [sv_r a, sv_i v74, sv_i y]) rfl ?_
        refine sv_gf C (index := 69) (ci := 10) (k := 7) (r := (RX11, TX11, 47)) (v := sv_r v71) (by decide +kernel) (by rw [k_a]; rfl) rfl (by decide) fl_X11_69 (congrArg sv_a ev71) ?_
        refine sv_go C.1 C.2.1 [(.iload 4, 2)] (pc' := 84) (by decide +kernel) rfl (lv' := [(0, sv_r a), (1, sv_i p1), (2, sv_i y), (3, sv_i f), (4, sv_i vu5)]) (st' := [sv_i vu5, sv_r v71, sv_i v74, sv_i y]) rfl ?_
        refine sv_ia C (n := 300) (by decide +kernel) (by rw [kv71]; rfl) (by decide) (by omega) (by omega) ?_
        rw [ev72]
        refine sv_cs C (index := 27) (k := 3) (rest := []) (by decide +kernel) (sf_X11_dayOf l g A ty σ hok78 hTA hI (y) ⟨by omega, by omega⟩ (v74) ⟨by omega, by omega⟩ (v72) ⟨by omega, by omega⟩) ⟨co_X11_dayOf, in_X11, ⟨by decide, by decide, by decide +kernel⟩, Nat.le_of_ble_eq_true rfl, Nat.le_of_ble_eq_true rfl⟩ ml_X11_27 st_X11_dayOf rfl rfl (Nat.le_of_ble_eq_true rfl) ⟨Nat.zero_le _, Nat.zero_le _⟩ (fun r83 σ84 hpo82 hok85 => ?_)
        obtain ⟨rfl, ⟨vu86, rfl, hvu86, ivu86_0⟩⟩ := hpo82
        have hp87 := ivu86_0 (by omega) (by omega)
        refine sv_same (st2 := [sv_i vu86]) (lv2 := [(0, sv_r a), (1, sv_i p1), (2, sv_i y), (3, sv_i f), (4, sv_i vu5)]) rfl rfl ?_
        exact sv_iret C hr (by decide +kernel) hok85 (⟨rfl, ⟨_, rfl, ⟨by omega, by omega⟩⟩⟩)
      · refine sv_go C.1 C.2.1 [(.bipush (-10), 2)] (pc' := 67) (by decide +kernel) rfl (lv' := [(0, sv_r a), (1, sv_i p1), (2, sv_i y), (3, sv_i f), (4, sv_i vu5)]) (st' := [sv_i ((-10))]) rfl ?_
        refine sv_goto C.1 C.2.1 (off := 21) (tgt := 88) (by decide +kernel) (by decide) ?_
        exact sv_iret C hr (by decide +kernel) hok78 (⟨rfl, ⟨_, rfl, ⟨by omega, by omega⟩⟩⟩)
  · refine sv_same (st2 := [sv_i 0]) (lv2 := [(0, sv_r a), (1, sv_i p1), (2, sv_i y), (3, sv_i f), (4, sv_i vu5)]) rfl rfl ?_
    refine sv_if_f C.1 C.2.1 (cnd := .ne) (off := 6) (tgt := 34) (by decide +kernel) (by decide) ⟨by omega, by omega⟩ (show ¬ (0 ≠ 0) by omega) ?_
    refine sv_go C.1 C.2.1 [(.bipush (-10), 2)] (pc' := 33) (by decide +kernel) rfl (lv' := [(0, sv_r a), (1, sv_i p1), (2, sv_i y), (3, sv_i f), (4, sv_i vu5)]) (st' := [sv_i ((-10))]) rfl ?_
    exact sv_iret C hr (by decide +kernel) hok13 (⟨rfl, ⟨_, rfl, ⟨by omega, by omega⟩⟩⟩)

theorem fl_X11_112 : Cond.fieldLink RX11 112 "SaintsRoadModel" "waits" "[I" ∈ lw_good := sv_mem 1132 (by decide +kernel) rfl
theorem ml_X11_294 : Cond.methodLink RX11 294 yX11_ownDay ∈ lw_good := sv_mem 1374 (by decide +kernel) rfl
theorem co_X11_ownDay : Cond.code yX11_ownDay cX11_ownDay 6 (some .int) ∈ lw_good := sv_mem 1377 (by decide +kernel) rfl
theorem im_X11_ownDay : Cond.instanceMethod yX11_ownDay ∈ lw_good := sv_mem 1376 (by decide +kernel) rfl
theorem se_X11_ownDay : Cond.selects RX11 yX11_ownDay yX11_ownDay ∈ lw_good := sv_mem 62 (by decide +kernel) rfl
theorem fl_X11_115 : Cond.fieldLink RX11 115 "SaintsRoadModel" "moves" "[I" ∈ lw_good := sv_mem 1133 (by decide +kernel) rfl
theorem fl_X11_118 : Cond.fieldLink RX11 118 "SaintsRoadModel" "heldOn" "[I" ∈ lw_good := sv_mem 1134 (by decide +kernel) rfl
theorem fl_X11_121 : Cond.fieldLink RX11 121 "SaintsRoadModel" "office" "[I" ∈ lw_good := sv_mem 1135 (by decide +kernel) rfl
set_option maxHeartbeats 4000000 in
set_option maxRecDepth 100000 in
theorem sf_X11_lead (l : Launch) (g : sv_G) (A : Nat → Prop) (ty : Nat → Nat) (σ : Nat → Nat → Int) (hok : sv_ok ty σ) (hTA : ∀ q, ty q ≠ 0 → A q) (hI : sv_inv sp_1 ty σ) (a : Nat) (k_a : ty a = 10) (p1 : Int) (h_p1 : 0 ≤ p1 ∧ p1 ≤ 3) (y : Int) (h_y : 1 ≤ y ∧ y ≤ 2000) : sv_M l yX11_lead cX11_lead 8 none { frames := 5, cells := 0, slots := 0, locals := 111 } g A ty σ [sv_r a, sv_i p1, sv_i y] (fun r σ' => (r = []) ∧ sv_inv sp_1 ty σ' ∧ sv_ofx [] [88, 89, 90, 91] ty σ σ') := by
  refine sv_enter (by decide) (Nat.le_of_ble_eq_true rfl) ?_
  intro p e s m args below meth c C hr
  have C : sv_C g A RX11 cX11_lead 8 p s m args meth c := C
  have hr : meth.sig.returnType = none := hr
  have hF : sv_ofx [] [88, 89, 90, 91] ty σ σ := sv_ofx.rf
  refine sv_same (st2 := []) (lv2 := [(0, sv_r a), (1, sv_i p1), (2, sv_i y)]) rfl rfl ?_
  refine sv_go C.1 C.2.1 [(.iconst 0, 1), (.istore_n 3, 1)] (pc' := 2) (by decide +kernel) rfl (lv' := [(0, sv_r a), (1, sv_i p1), (2, sv_i y), (3, sv_i 0)]) (st' := []) rfl ?_
  have L3 : ∀ (n : Nat) (Xg1_l3 : Int) (σ2 : Nat → Nat → Int), (0 ≤ Xg1_l3 ∧ Xg1_l3 ≤ 60) → (sv_ok ty σ2) → (sv_inv sp_1 ty σ2) → (sv_ofx [] [88, 89, 90, 91] ty σ σ2) → (60 - Xg1_l3) < (n : Int) → sv_E p l e { frames := 5, cells := 0, slots := 0, locals := 111 } s m args below meth c 8 g A ty (fun r σ' => (r = []) ∧ sv_inv sp_1 ty σ' ∧ sv_ofx [] [88, 89, 90, 91] ty σ σ') σ2 2 [(0, sv_r a), (1, sv_i p1), (2, sv_i y), (3, sv_i Xg1_l3)] [] := by
    intro n
    induction n with
    | zero => intro Xg1_l3 σ2 hXg1_l3 okσ2 Iσ2 Fσ2 hmu; exact absurd hmu (by omega)
    | succ n ih4 =>
      intro Xg1_l3 σ2 hXg1_l3 okσ2 Iσ2 Fσ2 hmu
      refine sv_go C.1 C.2.1 [(.iload_n 3, 1), (.aload_n 0, 1)] (pc' := 4) (by decide +kernel) rfl (lv' := [(0, sv_r a), (1, sv_i p1), (2, sv_i y), (3, sv_i Xg1_l3)]) (st' := [sv_r a, sv_i Xg1_l3]) rfl ?_
      obtain ⟨v5, ev5, kv5⟩ := Iσ2.ref (k := 0) k_a rfl
      refine sv_gf C (index := 47) (ci := 10) (k := 0) (r := (RX11, TX11, 47)) (v := sv_r v5) (by decide +kernel) (by rw [k_a]; rfl) rfl (by decide) fl_X11_47 (congrArg sv_a ev5) ?_
      refine sv_go C.1 C.2.1 [(.iload_n 1, 1)] (pc' := 8) (by decide +kernel) rfl (lv' := [(0, sv_r a), (1, sv_i p1), (2, sv_i y), (3, sv_i Xg1_l3)]) (st' := [sv_i p1, sv_r v5, sv_i Xg1_l3]) rfl ?_
      refine sv_ia C (n := 5) (by decide +kernel) (by rw [kv5]; rfl) (by decide) (by omega) (by omega) ?_
      obtain ⟨v6, ev6, hv6⟩ := sv_rdn Iσ2 (k := (p1 : Int).toNat) kv5 rfl
      rw [ev6]
      refine sv_icmp C.1 C.2.1 (cnd := .ge) (off := 52) (tgt := 61) (by decide +kernel) (by decide) ⟨by omega, by omega⟩ ⟨by omega, by omega⟩ (fun (h7 : v6 ≤ Xg1_l3) => ?_) (fun (h7 : ¬ (v6 ≤ Xg1_l3)) => ?_)
      · refine sv_go C.1 C.2.1 [(.iconst (-1), 1), (.istore_n 3, 1), (.iconst 0, 1), (.istore 4, 2)] (pc' := 66) (by decide +kernel) rfl (lv' := [(0, sv_r a), (1, sv_i p1), (2, sv_i y), (3, sv_i ((-1))), (4, sv_i 0)]) (st' := []) rfl ?_
        have L10 : ∀ (n : Nat) (Xg8_l3 : Int) (Xg8_l4 : Int) (σ9 : Nat → Nat → Int), ((-1) ≤ Xg8_l3 ∧ Xg8_l3 ≤ 59) → (0 ≤ Xg8_l4 ∧ Xg8_l4 ≤ 366) → (sv_ok ty σ9) → (sv_inv sp_1 ty σ9) → (sv_ofx [] [88, 89, 90, 91] ty σ σ9) → (σ9 a 0 = (v5 : Int) + 1) → (σ9 v5 (p1 : Int).toNat = v6) → (366 - Xg8_l4) < (n : Int) → sv_E p l e { frames := 5, cells := 0, slots := 0, locals := 111 } s m args below meth c 8 g A ty (fun r σ' => (r = []) ∧ sv_inv sp_1 ty σ' ∧ sv_ofx [] [88, 89, 90, 91] ty σ σ') σ9 66 [(0, sv_r a), (1, sv_i p1), (2, sv_i y), (3, sv_i Xg8_l3), (4, sv_i Xg8_l4)] [] := by
          intro n
          induction n with
          | zero => intro Xg8_l3 Xg8_l4 σ9 hXg8_l3 hXg8_l4 okσ9 Iσ9 Fσ9 eσ9_0 eσ9_1 hmu; exact absurd hmu (by omega)
          | succ n ih11 =>
            intro Xg8_l3 Xg8_l4 σ9 hXg8_l3 hXg8_l4 okσ9 Iσ9 Fσ9 eσ9_0 eσ9_1 hmu
            refine sv_go C.1 C.2.1 [(.iload 4, 2), (.iload_n 2, 1)] (pc' := 69) (by decide +kernel) rfl (lv' := [(0, sv_r a), (1, sv_i p1), (2, sv_i y), (3, sv_i Xg8_l3), (4, sv_i Xg8_l4)]) (st' := [sv_i y, sv_i Xg8_l4]) rfl ?_
            refine sv_cs C (index := 16) (k := 1) (rest := [sv_i Xg8_l4]) (by decide +kernel) (ct_X11_daysOf l g A ty σ9 okσ9 (y) ⟨by omega, by omega⟩) ⟨co_X11_daysOf, in_X11, ⟨by decide, by decide, by decide +kernel⟩, Nat.le_of_ble_eq_true rfl, Nat.le_of_ble_eq_true rfl⟩ ml_X11_16 st_X11_daysOf rfl rfl (Nat.le_of_ble_eq_true rfl) ⟨Nat.zero_le _, Nat.zero_le _⟩ (fun r13 σ14 hpo12 hok15 => ?_)
            obtain ⟨rfl, rfl⟩ := hpo12
            have hn17 := dy_lp_in y
            refine sv_same (st2 := [sv_i (365 + dy_lp y), sv_i Xg8_l4]) (lv2 := [(0, sv_r a), (1, sv_i p1), (2, sv_i y), (3, sv_i Xg8_l3), (4, sv_i Xg8_l4)]) rfl rfl ?_
            refine sv_icmp C.1 C.2.1 (cnd := .ge) (off := 306) (tgt := 378) (by decide +kernel) (by decide) ⟨by omega, by omega⟩ ⟨by omega, by omega⟩ (fun (h18 : (365 + dy_lp y) ≤ Xg8_l4) => ?_) (fun (h18 : ¬ ((365 + dy_lp y) ≤ Xg8_l4)) => ?_)
            · exact sv_vret C hr (by decide +kernel) hok15 (⟨rfl, Iσ9, Fσ9⟩)
            · refine sv_go C.1 C.2.1 [(.iconst (-1), 1), (.istore 5, 2), (.iconst 0, 1), (.istore 6, 2)] (pc' := 81) (by decide +kernel) rfl (lv' := [(0, sv_r a), (1, sv_i p1), (2, sv_i y), (3, sv_i Xg8_l3), (4, sv_i Xg8_l4), (5, sv_i ((-1))), (6, sv_i 0)]) (st' := []) rfl ?_
              have L20 : ∀ (n : Nat) (Xg19_l5 : Int) (Xg19_l6 : Int), ((-1) ≤ Xg19_l5 ∧ Xg19_l5 ≤ 59) → (0 ≤ Xg19_l6 ∧ Xg19_l6 ≤ 60) → (60 - Xg19_l6) < (n : Int) → sv_E p l e { frames := 5, cells := 0, slots := 0, locals := 111 } s m args below meth c 8 g A ty (fun r σ' => (r = []) ∧ sv_inv sp_1 ty σ' ∧ sv_ofx [] [88, 89, 90, 91] ty σ σ') σ9 81 [(0, sv_r a), (1, sv_i p1), (2, sv_i y), (3, sv_i Xg8_l3), (4, sv_i Xg8_l4), (5, sv_i Xg19_l5), (6, sv_i Xg19_l6)] [] := by
                intro n
                induction n with
                | zero => intro Xg19_l5 Xg19_l6 hXg19_l5 hXg19_l6 hmu; exact absurd hmu (by omega)
                | succ n ih21 =>
                  intro Xg19_l5 Xg19_l6 hXg19_l5 hXg19_l6 hmu
                  refine sv_go C.1 C.2.1 [(.iload 6, 2), (.aload_n 0, 1)] (pc' := 84) (by decide +kernel) rfl (lv' := [(0, sv_r a), (1, sv_i p1), (2, sv_i y), (3, sv_i Xg8_l3), (4, sv_i Xg8_l4), (5, sv_i Xg19_l5), (6, sv_i Xg19_l6)]) (st' := [sv_r a, sv_i Xg19_l6]) rfl ?_
                  refine sv_gf C (index := 47) (ci := 10) (k := 0) (r := (RX11, TX11, 47)) (v := sv_r v5) (by decide +kernel) (by rw [k_a]; rfl) rfl (by decide) fl_X11_47 (congrArg sv_a eσ9_0) ?_
                  refine sv_go C.1 C.2.1 [(.iload_n 1, 1)] (pc' := 88) (by decide +kernel) rfl (lv' := [(0, sv_r a), (1, sv_i p1), (2, sv_i y), (3, sv_i Xg8_l3), (4, sv_i Xg8_l4), (5, sv_i Xg19_l5), (6, sv_i Xg19_l6)]) (st' := [sv_i p1, sv_r v5, sv_i Xg19_l6]) rfl ?_
                  refine sv_ia C (n := 5) (by decide +kernel) (by rw [kv5]; rfl) (by decide) (by omega) (by omega) ?_
                  rw [eσ9_1]
                  refine sv_icmp C.1 C.2.1 (cnd := .ge) (off := 56) (tgt := 145) (by decide +kernel) (by decide) ⟨by omega, by omega⟩ ⟨by omega, by omega⟩ (fun (h22 : v6 ≤ Xg19_l6) => ?_) (fun (h22 : ¬ (v6 ≤ Xg19_l6)) => ?_)
                  · refine sv_go C.1 C.2.1 [(.iconst 0, 1), (.istore 6, 2)] (pc' := 148) (by decide +kernel) rfl (lv' := [(0, sv_r a), (1, sv_i p1), (2, sv_i y), (3, sv_i Xg8_l3), (4, sv_i Xg8_l4), (5, sv_i Xg19_l5), (6, sv_i 0)]) (st' := []) rfl ?_
                    have L25 : ∀ (n : Nat) (Xg23_l6 : Int) (σ24 : Nat → Nat → Int), (0 ≤ Xg23_l6 ∧ Xg23_l6 ≤ 60) → (sv_ok ty σ24) → (sv_inv sp_1 ty σ24) → (sv_ofx [] [88, 89, 90, 91] ty σ σ24) → (σ24 a 0 = (v5 : Int) + 1) → (σ24 v5 (p1 : Int).toNat = v6) → (60 - Xg23_l6) < (n : Int) → sv_E p l e { frames := 5, cells := 0, slots := 0, locals := 111 } s m args below meth c 8 g A ty (fun r σ' => (r = []) ∧ sv_inv sp_1 ty σ' ∧ sv_ofx [] [88, 89, 90, 91] ty σ σ') σ24 148 [(0, sv_r a), (1, sv_i p1), (2, sv_i y), (3, sv_i Xg8_l3), (4, sv_i Xg8_l4), (5, sv_i Xg19_l5), (6, sv_i Xg23_l6)] [] := by
                      intro n
                      induction n with
                      | zero => intro Xg23_l6 σ24 hXg23_l6 okσ24 Iσ24 Fσ24 eσ24_0 eσ24_1 hmu; exact absurd hmu (by omega)
                      | succ n ih26 =>
                        intro Xg23_l6 σ24 hXg23_l6 okσ24 Iσ24 Fσ24 eσ24_0 eσ24_1 hmu
                        refine sv_go C.1 C.2.1 [(.iload 6, 2), (.aload_n 0, 1)] (pc' := 151) (by decide +kernel) rfl (lv' := [(0, sv_r a), (1, sv_i p1), (2, sv_i y), (3, sv_i Xg8_l3), (4, sv_i Xg8_l4), (5, sv_i Xg19_l5), (6, sv_i Xg23_l6)]) (st' := [sv_r a, sv_i Xg23_l6]) rfl ?_
                        refine sv_gf C (index := 47) (ci := 10) (k := 0) (r := (RX11, TX11, 47)) (v := sv_r v5) (by decide +kernel) (by rw [k_a]; rfl) rfl (by decide) fl_X11_47 (congrArg sv_a eσ24_0) ?_
                        refine sv_go C.1 C.2.1 [(.iload_n 1, 1)] (pc' := 155) (by decide +kernel) rfl (lv' := [(0, sv_r a), (1, sv_i p1), (2, sv_i y), (3, sv_i Xg8_l3), (4, sv_i Xg8_l4), (5, sv_i Xg19_l5), (6, sv_i Xg23_l6)]) (st' := [sv_i p1, sv_r v5, sv_i Xg23_l6]) rfl ?_
                        refine sv_ia C (n := 5) (by decide +kernel) (by rw [kv5]; rfl) (by decide) (by omega) (by omega) ?_
                        rw [eσ24_1]
                        refine sv_icmp C.1 C.2.1 (cnd := .ge) (off := 106) (tgt := 262) (by decide +kernel) (by decide) ⟨by omega, by omega⟩ ⟨by omega, by omega⟩ (fun (h27 : v6 ≤ Xg23_l6) => ?_) (fun (h27 : ¬ (v6 ≤ Xg23_l6)) => ?_)
                        · refine sv_go C.1 C.2.1 [(.iload 5, 2), (.iconst (-1), 1)] (pc' := 265) (by decide +kernel) rfl (lv' := [(0, sv_r a), (1, sv_i p1), (2, sv_i y), (3, sv_i Xg8_l3), (4, sv_i Xg8_l4), (5, sv_i Xg19_l5), (6, sv_i Xg23_l6)]) (st' := [sv_i ((-1)), sv_i Xg19_l5]) rfl ?_
                          have J31 : ∀ (Jg29_l3 : Int) (σ30 : Nat → Nat → Int), ((-1) ≤ Jg29_l3 ∧ Jg29_l3 ≤ 59) → (sv_ok ty σ30) → (sv_inv sp_1 ty σ30) → (sv_ofx [] [88, 89, 90, 91] ty σ σ30) → (σ30 a 0 = (v5 : Int) + 1) → (σ30 v5 (p1 : Int).toNat = v6) → sv_E p l e { frames := 5, cells := 0, slots := 0, locals := 111 } s m args below meth c 8 g A ty (fun r σ' => (r = []) ∧ sv_inv sp_1 ty σ' ∧ sv_ofx [] [88, 89, 90, 91] ty σ σ') σ30 294 [(0, sv_r a), (1, sv_i p1), (2, sv_i y), (3, sv_i Jg29_l3), (4, sv_i Xg8_l4), (5, sv_i Xg19_l5)] [] := by
                            intro Jg29_l3 σ30 hJg29_l3 okσ30 Iσ30 Fσ30 eσ30_0 eσ30_1
                            refine sv_go C.1 C.2.1 [(.iload 5, 2), (.iconst (-1), 1)] (pc' := 297) (by decide +kernel) rfl (lv' := [(0, sv_r a), (1, sv_i p1), (2, sv_i y), (3, sv_i Jg29_l3), (4, sv_i Xg8_l4), (5, sv_i Xg19_l5)]) (st' := [sv_i ((-1)), sv_i Xg19_l5]) rfl ?_
                            have J34 : ∀ (Jg33_s0 : Int), (0 ≤ Jg33_s0 ∧ Jg33_s0 ≤ 1) → sv_E p l e { frames := 5, cells := 0, slots := 0, locals := 111 } s m args below meth c 8 g A ty (fun r σ' => (r = []) ∧ sv_inv sp_1 ty σ' ∧ sv_ofx [] [88, 89, 90, 91] ty σ σ') σ30 324 [(0, sv_r a), (1, sv_i p1), (2, sv_i y), (3, sv_i Jg29_l3), (4, sv_i Xg8_l4), (5, sv_i Xg19_l5)] [sv_i Jg33_s0] := by
                              intro Jg33_s0 hJg33_s0
                              refine sv_go C.1 C.2.1 [(.istore 6, 2), (.aload_n 0, 1)] (pc' := 327) (by decide +kernel) rfl (lv' := [(0, sv_r a), (1, sv_i p1), (2, sv_i y), (3, sv_i Jg29_l3), (4, sv_i Xg8_l4), (5, sv_i Xg19_l5), (6, sv_i Jg33_s0)]) (st' := [sv_r a]) rfl ?_
                              obtain ⟨v35, ev35, kv35⟩ := Iσ30.ref (k := 31) k_a rfl
                              refine sv_gf C (index := 121) (ci := 10) (k := 31) (r := (RX11, TX11, 47)) (v := sv_r v35) (by decide +kernel) (by rw [k_a]; rfl) rfl (by decide) fl_X11_121 (congrArg sv_a ev35) ?_
                              refine sv_go C.1 C.2.1 [(.iload 4, 2), (.iload 5, 2), (.iconst (-1), 1)] (pc' := 335) (by decide +kernel) rfl (lv' := [(0, sv_r a), (1, sv_i p1), (2, sv_i y), (3, sv_i Jg29_l3), (4, sv_i Xg8_l4), (5, sv_i Xg19_l5), (6, sv_i Jg33_s0)]) (st' := [sv_i ((-1)), sv_i Xg19_l5, sv_i Xg8_l4, sv_r v35]) rfl ?_
                              have J38 : ∀ (Jg37_s0 : Int), ((-79) ≤ Jg37_s0 ∧ Jg37_s0 ≤ 59) → sv_E p l e { frames := 5, cells := 0, slots := 0, locals := 111 } s m args below meth c 8 g A ty (fun r σ' => (r = []) ∧ sv_inv sp_1 ty σ' ∧ sv_ofx [] [88, 89, 90, 91] ty σ σ') σ30 371 [(0, sv_r a), (1, sv_i p1), (2, sv_i y), (3, sv_i Jg29_l3), (4, sv_i Xg8_l4)] [sv_i Jg37_s0, sv_i Xg8_l4, sv_r v35] := by
                                intro Jg37_s0 hJg37_s0
                                refine sv_is C (n := 366) (by decide +kernel) (by rw [kv35]; rfl) (by decide) (by omega) (by omega) ⟨by omega, by omega⟩ (hTA _ (by rw [kv35]; decide)) okσ30 (fun hok39 => ?_)
                                have hI41 := Iσ30.up (a := v35) (k := (Xg8_l4 : Int).toNat) (z := Jg37_s0) (by rw [kv35]; exact ⟨by omega, by omega⟩)
                                have hF42 := Fσ30.up (a := v35) (k := (Xg8_l4 : Int).toNat) (z := Jg37_s0) (Or.inl (by rw [kv35]; decide))
                                generalize eσ40 : sv_up σ30 v35 (Xg8_l4 : Int).toNat Jg37_s0 = σ40 at hok39 hI41 hF42 ⊢
                                have t43 : σ40 a 0 = (v5 : Int) + 1 := by rw [← eσ40, sv_up_a (sv_ne k_a kv35 (by decide))]; exact eσ30_0
                                have t44 : σ40 v5 (p1 : Int).toNat = v6 := by rw [← eσ40, sv_up_a (sv_ne kv5 kv35 (by decide))]; exact eσ30_1
                                have t45 : σ40 a 31 = (v35 : Int) + 1 := by rw [← eσ40, sv_up_a (sv_ne k_a kv35 (by decide))]; exact ev35
                                have t46 : σ40 v35 (Xg8_l4 : Int).toNat = Jg37_s0 := by rw [← eσ40]; exact sv_up_s _ _ _ _
                                refine sv_go C.1 C.2.1 [(.iinc 4 1, 3)] (pc' := 375) (by decide +kernel) rfl (lv' := [(0, sv_r a), (1, sv_i p1), (2, sv_i y), (3, sv_i Jg29_l3), (4, sv_i (Xg8_l4 + 1))]) (st' := []) rfl ?_
                                refine sv_goto C.1 C.2.1 (off := (-309)) (tgt := 66) (by decide +kernel) (by decide) ?_
                                exact ih11 Jg29_l3 (Xg8_l4 + 1) σ40 ⟨by omega, by omega⟩ ⟨by omega, by omega⟩ hok39 hI41 hF42 t43 t44 (by omega)
                              refine sv_icmp C.1 C.2.1 (cnd := .eq) (off := 8) (tgt := 343) (by decide +kernel) (by decide) ⟨by omega, by omega⟩ ⟨by omega, by omega⟩ (fun (h36 : Xg19_l5 = ((-1))) => ?_) (fun (h36 : ¬ (Xg19_l5 = ((-1)))) => ?_)
                              · refine sv_go C.1 C.2.1 [(.iload 6, 2)] (pc' := 345) (by decide +kernel) rfl (lv' := [(0, sv_r a), (1, sv_i p1), (2, sv_i y), (3, sv_i Jg29_l3), (4, sv_i Xg8_l4), (5, sv_i Xg19_l5), (6, sv_i Jg33_s0)]) (st' := [sv_i Jg33_s0, sv_i Xg8_l4, sv_r v35]) rfl ?_
                                refine sv_if C.1 C.2.1 (cnd := .eq) (off := 10) (tgt := 355) (by decide +kernel) (by decide) ⟨by omega, by omega⟩ (fun (h47 : Jg33_s0 = 0) => ?_) (fun (h47 : ¬ (Jg33_s0 = 0)) => ?_)
                                · refine sv_go C.1 C.2.1 [(.iload_n 2, 1), (.iload 4, 2)] (pc' := 358) (by decide +kernel) rfl (lv' := [(0, sv_r a), (1, sv_i p1), (2, sv_i y), (3, sv_i Jg29_l3), (4, sv_i Xg8_l4), (5, sv_i Xg19_l5), (6, sv_i Jg33_s0)]) (st' := [sv_i Xg8_l4, sv_i y, sv_i Xg8_l4, sv_r v35]) rfl ?_
                                  refine sv_cs C (index := 31) (k := 2) (rest := [sv_i Xg8_l4, sv_r v35]) (by decide +kernel) (ct_X11_weekday l g A ty σ30 okσ30 (y) ⟨by omega, by omega⟩ (Xg8_l4) ⟨by omega, by omega⟩) ⟨co_X11_weekday, in_X11, ⟨by decide, by decide, by decide +kernel⟩, Nat.le_of_ble_eq_true rfl, Nat.le_of_ble_eq_true rfl⟩ ml_X11_31 st_X11_weekday rfl rfl (Nat.le_of_ble_eq_true rfl) ⟨Nat.zero_le _, Nat.zero_le _⟩ (fun r49 σ50 hpo48 hok51 => ?_)
                                  obtain ⟨rfl, rfl⟩ := hpo48
                                  have hn53 := dy_wd_in y Xg8_l4
                                  refine sv_same (st2 := [sv_i (dy_wd y Xg8_l4), sv_i Xg8_l4, sv_r v35]) (lv2 := [(0, sv_r a), (1, sv_i p1), (2, sv_i y), (3, sv_i Jg29_l3), (4, sv_i Xg8_l4), (5, sv_i Xg19_l5), (6, sv_i Jg33_s0)]) rfl rfl ?_
                                  refine sv_if C.1 C.2.1 (cnd := .ne) (off := 8) (tgt := 369) (by decide +kernel) (by decide) ⟨by omega, by omega⟩ (fun (h54 : (dy_wd y Xg8_l4) ≠ 0) => ?_) (fun (h54 : ¬ ((dy_wd y Xg8_l4) ≠ 0)) => ?_)
                                  · refine sv_go C.1 C.2.1 [(.bipush (-10), 2)] (pc' := 371) (by decide +kernel) rfl (lv' := [(0, sv_r a), (1, sv_i p1), (2, sv_i y), (3, sv_i Jg29_l3), (4, sv_i Xg8_l4), (5, sv_i Xg19_l5), (6, sv_i Jg33_s0)]) (st' := [sv_i ((-10)), sv_i Xg8_l4, sv_r v35]) rfl ?_
                                    refine sv_pick [0, 1, 2, 3, 4] (lv2 := [(0, sv_r a), (1, sv_i p1), (2, sv_i y), (3, sv_i Jg29_l3), (4, sv_i Xg8_l4)]) rfl ?_
                                    exact J38 ((-10)) ⟨by omega, by omega⟩
                                  · refine sv_go C.1 C.2.1 [(.bipush (-11), 2)] (pc' := 366) (by decide +kernel) rfl (lv' := [(0, sv_r a), (1, sv_i p1), (2, sv_i y), (3, sv_i Jg29_l3), (4, sv_i Xg8_l4), (5, sv_i Xg19_l5), (6, sv_i Jg33_s0)]) (st' := [sv_i ((-11)), sv_i Xg8_l4, sv_r v35]) rfl ?_
                                    refine sv_goto C.1 C.2.1 (off := 5) (tgt := 371) (by decide +kernel) (by decide) ?_
                                    refine sv_pick [0, 1, 2, 3, 4] (lv2 := [(0, sv_r a), (1, sv_i p1), (2, sv_i y), (3, sv_i Jg29_l3), (4, sv_i Xg8_l4)]) rfl ?_
                                    exact J38 ((-11)) ⟨by omega, by omega⟩
                                · refine sv_go C.1 C.2.1 [(.bipush (-20), 2), (.iload_n 3, 1), (.isub, 1)] (pc' := 352) (by decide +kernel) rfl (lv' := [(0, sv_r a), (1, sv_i p1), (2, sv_i y), (3, sv_i Jg29_l3), (4, sv_i Xg8_l4), (5, sv_i Xg19_l5), (6, sv_i Jg33_s0)]) (st' := [sv_i (((-20)) - Jg29_l3), sv_i Xg8_l4, sv_r v35]) rfl ?_
                                  refine sv_goto C.1 C.2.1 (off := 19) (tgt := 371) (by decide +kernel) (by decide) ?_
                                  refine sv_pick [0, 1, 2, 3, 4] (lv2 := [(0, sv_r a), (1, sv_i p1), (2, sv_i y), (3, sv_i Jg29_l3), (4, sv_i Xg8_l4)]) rfl ?_
                                  exact J38 (((-20)) - Jg29_l3) ⟨by omega, by omega⟩
                              · refine sv_go C.1 C.2.1 [(.iload 5, 2)] (pc' := 340) (by decide +kernel) rfl (lv' := [(0, sv_r a), (1, sv_i p1), (2, sv_i y), (3, sv_i Jg29_l3), (4, sv_i Xg8_l4), (5, sv_i Xg19_l5), (6, sv_i Jg33_s0)]) (st' := [sv_i Xg19_l5, sv_i Xg8_l4, sv_r v35]) rfl ?_
                                refine sv_goto C.1 C.2.1 (off := 31) (tgt := 371) (by decide +kernel) (by decide) ?_
                                refine sv_pick [0, 1, 2, 3, 4] (lv2 := [(0, sv_r a), (1, sv_i p1), (2, sv_i y), (3, sv_i Jg29_l3), (4, sv_i Xg8_l4)]) rfl ?_
                                exact J38 Xg19_l5 ⟨by omega, by omega⟩
                            refine sv_icmp C.1 C.2.1 (cnd := .ne) (off := 26) (tgt := 323) (by decide +kernel) (by decide) ⟨by omega, by omega⟩ ⟨by omega, by omega⟩ (fun (h32 : Xg19_l5 ≠ ((-1))) => ?_) (fun (h32 : ¬ (Xg19_l5 ≠ ((-1)))) => ?_)
                            · refine sv_go C.1 C.2.1 [(.iconst 0, 1)] (pc' := 324) (by decide +kernel) rfl (lv' := [(0, sv_r a), (1, sv_i p1), (2, sv_i y), (3, sv_i Jg29_l3), (4, sv_i Xg8_l4), (5, sv_i Xg19_l5)]) (st' := [sv_i 0]) rfl ?_
                              exact J34 0 ⟨by omega, by omega⟩
                            · refine sv_go C.1 C.2.1 [(.iload_n 3, 1), (.iconst (-1), 1)] (pc' := 302) (by decide +kernel) rfl (lv' := [(0, sv_r a), (1, sv_i p1), (2, sv_i y), (3, sv_i Jg29_l3), (4, sv_i Xg8_l4), (5, sv_i Xg19_l5)]) (st' := [sv_i ((-1)), sv_i Jg29_l3]) rfl ?_
                              refine sv_icmp C.1 C.2.1 (cnd := .eq) (off := 21) (tgt := 323) (by decide +kernel) (by decide) ⟨by omega, by omega⟩ ⟨by omega, by omega⟩ (fun (h55 : Jg29_l3 = ((-1))) => ?_) (fun (h55 : ¬ (Jg29_l3 = ((-1)))) => ?_)
                              · refine sv_go C.1 C.2.1 [(.iconst 0, 1)] (pc' := 324) (by decide +kernel) rfl (lv' := [(0, sv_r a), (1, sv_i p1), (2, sv_i y), (3, sv_i Jg29_l3), (4, sv_i Xg8_l4), (5, sv_i Xg19_l5)]) (st' := [sv_i 0]) rfl ?_
                                exact J34 0 ⟨by omega, by omega⟩
                              · refine sv_go C.1 C.2.1 [(.iload 4, 2), (.aload_n 0, 1)] (pc' := 308) (by decide +kernel) rfl (lv' := [(0, sv_r a), (1, sv_i p1), (2, sv_i y), (3, sv_i Jg29_l3), (4, sv_i Xg8_l4), (5, sv_i Xg19_l5)]) (st' := [sv_r a, sv_i Xg8_l4]) rfl ?_
                                obtain ⟨v56, ev56, kv56⟩ := Iσ30.ref (k := 30) k_a rfl
                                refine sv_gf C (index := 118) (ci := 10) (k := 30) (r := (RX11, TX11, 47)) (v := sv_r v56) (by decide +kernel) (by rw [k_a]; rfl) rfl (by decide) fl_X11_118 (congrArg sv_a ev56) ?_
                                refine sv_go C.1 C.2.1 [(.iload_n 3, 1)] (pc' := 312) (by decide +kernel) rfl (lv' := [(0, sv_r a), (1, sv_i p1), (2, sv_i y), (3, sv_i Jg29_l3), (4, sv_i Xg8_l4), (5, sv_i Xg19_l5)]) (st' := [sv_i Jg29_l3, sv_r v56, sv_i Xg8_l4]) rfl ?_
                                refine sv_ia C (n := 60) (by decide +kernel) (by rw [kv56]; rfl) (by decide) (by omega) (by omega) ?_
                                obtain ⟨v57, ev57, hv57⟩ := sv_rde okσ30 (a := v56) (k := (Jg29_l3 : Int).toNat) (n := 60) (by rw [kv56]; rfl) (by omega)
                                rw [ev57]
                                refine sv_go C.1 C.2.1 [(.isub, 1), (.bipush 7, 2)] (pc' := 316) (by decide +kernel) rfl (lv' := [(0, sv_r a), (1, sv_i p1), (2, sv_i y), (3, sv_i Jg29_l3), (4, sv_i Xg8_l4), (5, sv_i Xg19_l5)]) (st' := [sv_i 7, sv_i (Xg8_l4 - v57)]) rfl ?_
                                obtain ⟨w58, hw58, ew58⟩ := sv_wr (Xg8_l4 - v57)
                                refine sv_sameD (st2 := [sv_i 7, sv_i w58]) (lv2 := [(0, sv_r a), (1, sv_i p1), (2, sv_i y), (3, sv_i Jg29_l3), (4, sv_i Xg8_l4), (5, sv_i Xg19_l5)]) (by simp only [List.map_cons, List.map_nil, sv_den_i, ew58]) rfl ?_
                                refine sv_icmp C.1 C.2.1 (cnd := .gt) (off := 7) (tgt := 323) (by decide +kernel) (by decide) ⟨by omega, by omega⟩ ⟨by omega, by omega⟩ (fun (h59 : 7 < w58) => ?_) (fun (h59 : ¬ (7 < w58)) => ?_)
                                · refine sv_go C.1 C.2.1 [(.iconst 0, 1)] (pc' := 324) (by decide +kernel) rfl (lv' := [(0, sv_r a), (1, sv_i p1), (2, sv_i y), (3, sv_i Jg29_l3), (4, sv_i Xg8_l4), (5, sv_i Xg19_l5)]) (st' := [sv_i 0]) rfl ?_
                                  exact J34 0 ⟨by omega, by omega⟩
                                · refine sv_go C.1 C.2.1 [(.iconst 1, 1)] (pc' := 320) (by decide +kernel) rfl (lv' := [(0, sv_r a), (1, sv_i p1), (2, sv_i y), (3, sv_i Jg29_l3), (4, sv_i Xg8_l4), (5, sv_i Xg19_l5)]) (st' := [sv_i 1]) rfl ?_
                                  refine sv_goto C.1 C.2.1 (off := 4) (tgt := 324) (by decide +kernel) (by decide) ?_
                                  exact J34 1 ⟨by omega, by omega⟩
                          refine sv_icmp C.1 C.2.1 (cnd := .eq) (off := 29) (tgt := 294) (by decide +kernel) (by decide) ⟨by omega, by omega⟩ ⟨by omega, by omega⟩ (fun (h28 : Xg19_l5 = ((-1))) => ?_) (fun (h28 : ¬ (Xg19_l5 = ((-1)))) => ?_)
                          · refine sv_pick [0, 1, 2, 3, 4, 5] (lv2 := [(0, sv_r a), (1, sv_i p1), (2, sv_i y), (3, sv_i Xg8_l3), (4, sv_i Xg8_l4), (5, sv_i Xg19_l5)]) rfl ?_
                            exact J31 Xg8_l3 σ24 ⟨by omega, by omega⟩ okσ24 Iσ24 Fσ24 eσ24_0 eσ24_1
                          · refine sv_go C.1 C.2.1 [(.aload_n 0, 1)] (pc' := 269) (by decide +kernel) rfl (lv' := [(0, sv_r a), (1, sv_i p1), (2, sv_i y), (3, sv_i Xg8_l3), (4, sv_i Xg8_l4), (5, sv_i Xg19_l5), (6, sv_i Xg23_l6)]) (st' := [sv_r a]) rfl ?_
                            obtain ⟨v60, ev60, kv60⟩ := Iσ24.ref (k := 30) k_a rfl
                            refine sv_gf C (index := 118) (ci := 10) (k := 30) (r := (RX11, TX11, 47)) (v := sv_r v60) (by decide +kernel) (by rw [k_a]; rfl) rfl (by decide) fl_X11_118 (congrArg sv_a ev60) ?_
                            refine sv_go C.1 C.2.1 [(.iload 5, 2), (.iload 4, 2)] (pc' := 276) (by decide +kernel) rfl (lv' := [(0, sv_r a), (1, sv_i p1), (2, sv_i y), (3, sv_i Xg8_l3), (4, sv_i Xg8_l4), (5, sv_i Xg19_l5), (6, sv_i Xg23_l6)]) (st' := [sv_i Xg8_l4, sv_i Xg19_l5, sv_r v60]) rfl ?_
                            refine sv_is C (n := 60) (by decide +kernel) (by rw [kv60]; rfl) (by decide) (by omega) (by omega) ⟨by omega, by omega⟩ (hTA _ (by rw [kv60]; decide)) okσ24 (fun hok61 => ?_)
                            have hI63 := Iσ24.up (a := v60) (k := (Xg19_l5 : Int).toNat) (z := Xg8_l4) (by rw [kv60]; exact trivial)
                            have hF64 := Fσ24.up (a := v60) (k := (Xg19_l5 : Int).toNat) (z := Xg8_l4) (Or.inl (by rw [kv60]; decide))
                            generalize eσ62 : sv_up σ24 v60 (Xg19_l5 : Int).toNat Xg8_l4 = σ62 at hok61 hI63 hF64 ⊢
                            have t65 : σ62 a 0 = (v5 : Int) + 1 := by rw [← eσ62, sv_up_a (sv_ne k_a kv60 (by decide))]; exact eσ24_0
                            have t66 : σ62 v5 (p1 : Int).toNat = v6 := by rw [← eσ62, sv_up_a (sv_ne kv5 kv60 (by decide))]; exact eσ24_1
                            have t67 : σ62 a 30 = (v60 : Int) + 1 := by rw [← eσ62, sv_up_a (sv_ne k_a kv60 (by decide))]; exact ev60
                            have t68 : σ62 v60 (Xg19_l5 : Int).toNat = Xg8_l4 := by rw [← eσ62]; exact sv_up_s _ _ _ _
                            refine sv_go C.1 C.2.1 [(.aload_n 0, 1)] (pc' := 278) (by decide +kernel) rfl (lv' := [(0, sv_r a), (1, sv_i p1), (2, sv_i y), (3, sv_i Xg8_l3), (4, sv_i Xg8_l4), (5, sv_i Xg19_l5), (6, sv_i Xg23_l6)]) (st' := [sv_r a]) rfl ?_
                            obtain ⟨v69, ev69, kv69⟩ := hI63.ref (k := 13) k_a rfl
                            refine sv_gf C (index := 88) (ci := 10) (k := 13) (r := (RX11, TX11, 47)) (v := sv_r v69) (by decide +kernel) (by rw [k_a]; rfl) rfl (by decide) fl_X11_88 (congrArg sv_a ev69) ?_
                            refine sv_go C.1 C.2.1 [(.iload_n 1, 1), (.iload 5, 2)] (pc' := 284) (by decide +kernel) rfl (lv' := [(0, sv_r a), (1, sv_i p1), (2, sv_i y), (3, sv_i Xg8_l3), (4, sv_i Xg8_l4), (5, sv_i Xg19_l5), (6, sv_i Xg23_l6)]) (st' := [sv_i Xg19_l5, sv_i p1, sv_r v69]) rfl ?_
                            refine sv_cs C (index := 166) (k := 2) (rest := [sv_r v69]) (by decide +kernel) (sf_X11_at l g A ty σ62 hok61 hTA hI63 (p1) ⟨by omega, by omega⟩ (Xg19_l5) ⟨by omega, by omega⟩) ⟨co_X11_at, in_X11, ⟨by decide, by decide, by decide +kernel⟩, Nat.le_of_ble_eq_true rfl, Nat.le_of_ble_eq_true rfl⟩ ml_X11_166 st_X11_at rfl rfl (Nat.le_of_ble_eq_true rfl) ⟨Nat.zero_le _, Nat.zero_le _⟩ (fun r71 σ72 hpo70 hok73 => ?_)
                            obtain ⟨rfl, ⟨vu74, rfl, hvu74⟩⟩ := hpo70
                            refine sv_same (st2 := [sv_i vu74, sv_r v69]) (lv2 := [(0, sv_r a), (1, sv_i p1), (2, sv_i y), (3, sv_i Xg8_l3), (4, sv_i Xg8_l4), (5, sv_i Xg19_l5), (6, sv_i Xg23_l6)]) rfl rfl ?_
                            refine sv_za C (n := 300) (by decide +kernel) (by rw [kv69]; rfl) (by decide) (by omega) (by omega) ?_
                            obtain ⟨v75, ev75, hv75⟩ := sv_rdez hok73 (a := v69) (k := (vu74 : Int).toNat) (n := 300) (by rw [kv69]; rfl) (by omega)
                            rw [ev75]
                            refine sv_if C.1 C.2.1 (cnd := .eq) (off := 6) (tgt := 294) (by decide +kernel) (by decide) ⟨by omega, by omega⟩ (fun (h76 : v75 = 0) => ?_) (fun (h76 : ¬ (v75 = 0)) => ?_)
                            · refine sv_pick [0, 1, 2, 3, 4, 5] (lv2 := [(0, sv_r a), (1, sv_i p1), (2, sv_i y), (3, sv_i Xg8_l3), (4, sv_i Xg8_l4), (5, sv_i Xg19_l5)]) rfl ?_
                              exact J31 Xg8_l3 σ62 ⟨by omega, by omega⟩ hok73 hI63 hF64 t65 t66
                            · refine sv_go C.1 C.2.1 [(.iload 5, 2), (.istore_n 3, 1)] (pc' := 294) (by decide +kernel) rfl (lv' := [(0, sv_r a), (1, sv_i p1), (2, sv_i y), (3, sv_i Xg19_l5), (4, sv_i Xg8_l4), (5, sv_i Xg19_l5), (6, sv_i Xg23_l6)]) (st' := []) rfl ?_
                              refine sv_pick [0, 1, 2, 3, 4, 5] (lv2 := [(0, sv_r a), (1, sv_i p1), (2, sv_i y), (3, sv_i Xg19_l5), (4, sv_i Xg8_l4), (5, sv_i Xg19_l5)]) rfl ?_
                              exact J31 Xg19_l5 σ62 ⟨by omega, by omega⟩ hok73 hI63 hF64 t65 t66
                        · refine sv_go C.1 C.2.1 [(.aload_n 0, 1)] (pc' := 160) (by decide +kernel) rfl (lv' := [(0, sv_r a), (1, sv_i p1), (2, sv_i y), (3, sv_i Xg8_l3), (4, sv_i Xg8_l4), (5, sv_i Xg19_l5), (6, sv_i Xg23_l6)]) (st' := [sv_r a]) rfl ?_
                          obtain ⟨v77, ev77, kv77⟩ := Iσ24.ref (k := 28) k_a rfl
                          refine sv_gf C (index := 112) (ci := 10) (k := 28) (r := (RX11, TX11, 47)) (v := sv_r v77) (by decide +kernel) (by rw [k_a]; rfl) rfl (by decide) fl_X11_112 (congrArg sv_a ev77) ?_
                          refine sv_go C.1 C.2.1 [(.iload 6, 2)] (pc' := 165) (by decide +kernel) rfl (lv' := [(0, sv_r a), (1, sv_i p1), (2, sv_i y), (3, sv_i Xg8_l3), (4, sv_i Xg8_l4), (5, sv_i Xg19_l5), (6, sv_i Xg23_l6)]) (st' := [sv_i Xg23_l6, sv_r v77]) rfl ?_
                          refine sv_ia C (n := 60) (by decide +kernel) (by rw [kv77]; rfl) (by decide) (by omega) (by omega) ?_
                          obtain ⟨v78, ev78, hv78⟩ := sv_rde okσ24 (a := v77) (k := (Xg23_l6 : Int).toNat) (n := 60) (by rw [kv77]; rfl) (by omega)
                          rw [ev78]
                          refine sv_go C.1 C.2.1 [(.iload 4, 2)] (pc' := 168) (by decide +kernel) rfl (lv' := [(0, sv_r a), (1, sv_i p1), (2, sv_i y), (3, sv_i Xg8_l3), (4, sv_i Xg8_l4), (5, sv_i Xg19_l5), (6, sv_i Xg23_l6)]) (st' := [sv_i Xg8_l4, sv_i v78]) rfl ?_
                          have J82 : ∀ (Jg80_e3 : Int) (σ81 : Nat → Nat → Int), ((-2147483648) ≤ Jg80_e3 ∧ Jg80_e3 ≤ 2147483647) → (sv_ok ty σ81) → (sv_inv sp_1 ty σ81) → (sv_ofx [] [88, 89, 90, 91] ty σ σ81) → (σ81 a 0 = (v5 : Int) + 1) → (σ81 v5 (p1 : Int).toNat = v6) → (σ81 a 28 = (v77 : Int) + 1) → (σ81 v77 (Xg23_l6 : Int).toNat = Jg80_e3) → sv_E p l e { frames := 5, cells := 0, slots := 0, locals := 111 } s m args below meth c 8 g A ty (fun r σ' => (r = []) ∧ sv_inv sp_1 ty σ' ∧ sv_ofx [] [88, 89, 90, 91] ty σ σ') σ81 256 [(0, sv_r a), (1, sv_i p1), (2, sv_i y), (3, sv_i Xg8_l3), (4, sv_i Xg8_l4), (5, sv_i Xg19_l5), (6, sv_i Xg23_l6)] [] := by
                            intro Jg80_e3 σ81 hJg80_e3 okσ81 Iσ81 Fσ81 eσ81_0 eσ81_1 eσ81_2 eσ81_3
                            refine sv_go C.1 C.2.1 [(.iinc 6 1, 3)] (pc' := 259) (by decide +kernel) rfl (lv' := [(0, sv_r a), (1, sv_i p1), (2, sv_i y), (3, sv_i Xg8_l3), (4, sv_i Xg8_l4), (5, sv_i Xg19_l5), (6, sv_i (Xg23_l6 + 1))]) (st' := []) rfl ?_
                            refine sv_goto C.1 C.2.1 (off := (-111)) (tgt := 148) (by decide +kernel) (by decide) ?_
                            exact ih26 (Xg23_l6 + 1) σ81 ⟨by omega, by omega⟩ okσ81 Iσ81 Fσ81 eσ81_0 eσ81_1 (by omega)
                          refine sv_icmp C.1 C.2.1 (cnd := .ne) (off := 88) (tgt := 256) (by decide +kernel) (by decide) ⟨by omega, by omega⟩ ⟨by omega, by omega⟩ (fun (h79 : v78 ≠ Xg8_l4) => ?_) (fun (h79 : ¬ (v78 ≠ Xg8_l4)) => ?_)
                          · exact J82 v78 σ24 ⟨by omega, by omega⟩ okσ24 Iσ24 Fσ24 eσ24_0 eσ24_1 ev77 ev78
                          · refine sv_go C.1 C.2.1 [(.iload 6, 2), (.iload 5, 2)] (pc' := 175) (by decide +kernel) rfl (lv' := [(0, sv_r a), (1, sv_i p1), (2, sv_i y), (3, sv_i Xg8_l3), (4, sv_i Xg8_l4), (5, sv_i Xg19_l5), (6, sv_i Xg23_l6)]) (st' := [sv_i Xg19_l5, sv_i Xg23_l6]) rfl ?_
                            refine sv_icmp C.1 C.2.1 (cnd := .ne) (off := 6) (tgt := 181) (by decide +kernel) (by decide) ⟨by omega, by omega⟩ ⟨by omega, by omega⟩ (fun (h83 : Xg23_l6 ≠ Xg19_l5) => ?_) (fun (h83 : ¬ (Xg23_l6 ≠ Xg19_l5)) => ?_)
                            · refine sv_go C.1 C.2.1 [(.aload_n 0, 1)] (pc' := 182) (by decide +kernel) rfl (lv' := [(0, sv_r a), (1, sv_i p1), (2, sv_i y), (3, sv_i Xg8_l3), (4, sv_i Xg8_l4), (5, sv_i Xg19_l5), (6, sv_i Xg23_l6)]) (st' := [sv_r a]) rfl ?_
                              obtain ⟨v84, ev84, kv84⟩ := Iσ24.ref (k := 8) k_a rfl
                              refine sv_gf C (index := 72) (ci := 10) (k := 8) (r := (RX11, TX11, 47)) (v := sv_r v84) (by decide +kernel) (by rw [k_a]; rfl) rfl (by decide) fl_X11_72 (congrArg sv_a ev84) ?_
                              refine sv_go C.1 C.2.1 [(.iload_n 1, 1), (.iload 6, 2)] (pc' := 188) (by decide +kernel) rfl (lv' := [(0, sv_r a), (1, sv_i p1), (2, sv_i y), (3, sv_i Xg8_l3), (4, sv_i Xg8_l4), (5, sv_i Xg19_l5), (6, sv_i Xg23_l6)]) (st' := [sv_i Xg23_l6, sv_i p1, sv_r v84]) rfl ?_
                              refine sv_cs C (index := 166) (k := 2) (rest := [sv_r v84]) (by decide +kernel) (sf_X11_at l g A ty σ24 okσ24 hTA Iσ24 (p1) ⟨by omega, by omega⟩ (Xg23_l6) ⟨by omega, by omega⟩) ⟨co_X11_at, in_X11, ⟨by decide, by decide, by decide +kernel⟩, Nat.le_of_ble_eq_true rfl, Nat.le_of_ble_eq_true rfl⟩ ml_X11_166 st_X11_at rfl rfl (Nat.le_of_ble_eq_true rfl) ⟨Nat.zero_le _, Nat.zero_le _⟩ (fun r86 σ87 hpo85 hok88 => ?_)
                              obtain ⟨rfl, ⟨vu89, rfl, hvu89⟩⟩ := hpo85
                              refine sv_same (st2 := [sv_i vu89, sv_r v84]) (lv2 := [(0, sv_r a), (1, sv_i p1), (2, sv_i y), (3, sv_i Xg8_l3), (4, sv_i Xg8_l4), (5, sv_i Xg19_l5), (6, sv_i Xg23_l6)]) rfl rfl ?_
                              refine sv_ia C (n := 300) (by decide +kernel) (by rw [kv84]; rfl) (by decide) (by omega) (by omega) ?_
                              obtain ⟨v90, ev90, hv90⟩ := sv_rdn Iσ24 (k := (vu89 : Int).toNat) kv84 rfl
                              rw [ev90]
                              refine sv_go C.1 C.2.1 [(.aload_n 0, 1)] (pc' := 193) (by decide +kernel) rfl (lv' := [(0, sv_r a), (1, sv_i p1), (2, sv_i y), (3, sv_i Xg8_l3), (4, sv_i Xg8_l4), (5, sv_i Xg19_l5), (6, sv_i Xg23_l6)]) (st' := [sv_r a, sv_i v90]) rfl ?_
                              obtain ⟨v91, ev91, kv91⟩ := Iσ24.ref (k := 1) k_a rfl
                              refine sv_gf C (index := 51) (ci := 10) (k := 1) (r := (RX11, TX11, 47)) (v := sv_r v91) (by decide +kernel) (by rw [k_a]; rfl) rfl (by decide) fl_X11_51 (congrArg sv_a ev91) ?_
                              refine sv_go C.1 C.2.1 [(.iload_n 1, 1)] (pc' := 197) (by decide +kernel) rfl (lv' := [(0, sv_r a), (1, sv_i p1), (2, sv_i y), (3, sv_i Xg8_l3), (4, sv_i Xg8_l4), (5, sv_i Xg19_l5), (6, sv_i Xg23_l6)]) (st' := [sv_i p1, sv_r v91, sv_i v90]) rfl ?_
                              refine sv_ia C (n := 5) (by decide +kernel) (by rw [kv91]; rfl) (by decide) (by omega) (by omega) ?_
                              obtain ⟨v92, ev92, hv92⟩ := sv_rde hok88 (a := v91) (k := (p1 : Int).toNat) (n := 5) (by rw [kv91]; rfl) (by omega)
                              rw [ev92]
                              have J95 : ∀ (Jg94_s0 : Int), (0 ≤ Jg94_s0 ∧ Jg94_s0 ≤ 1) → sv_E p l e { frames := 5, cells := 0, slots := 0, locals := 111 } s m args below meth c 8 g A ty (fun r σ' => (r = []) ∧ sv_inv sp_1 ty σ' ∧ sv_ofx [] [88, 89, 90, 91] ty σ σ') σ24 222 [(0, sv_r a), (1, sv_i p1), (2, sv_i y), (3, sv_i Xg8_l3), (4, sv_i Xg8_l4), (5, sv_i Xg19_l5), (6, sv_i Xg23_l6)] [sv_i Jg94_s0] := by
                                intro Jg94_s0 hJg94_s0
                                refine sv_go C.1 C.2.1 [(.istore 7, 2), (.aload_n 0, 1)] (pc' := 225) (by decide +kernel) rfl (lv' := [(0, sv_r a), (1, sv_i p1), (2, sv_i y), (3, sv_i Xg8_l3), (4, sv_i Xg8_l4), (5, sv_i Xg19_l5), (6, sv_i Xg23_l6), (7, sv_i Jg94_s0)]) (st' := [sv_r a]) rfl ?_
                                refine sv_gf C (index := 112) (ci := 10) (k := 28) (r := (RX11, TX11, 47)) (v := sv_r v77) (by decide +kernel) (by rw [k_a]; rfl) rfl (by decide) fl_X11_112 (congrArg sv_a ev77) ?_
                                refine sv_go C.1 C.2.1 [(.iload 6, 2), (.iload 7, 2)] (pc' := 232) (by decide +kernel) rfl (lv' := [(0, sv_r a), (1, sv_i p1), (2, sv_i y), (3, sv_i Xg8_l3), (4, sv_i Xg8_l4), (5, sv_i Xg19_l5), (6, sv_i Xg23_l6), (7, sv_i Jg94_s0)]) (st' := [sv_i Jg94_s0, sv_i Xg23_l6, sv_r v77]) rfl ?_
                                have J98 : ∀ (Jg97_s0 : Int), ((-10) ≤ Jg97_s0 ∧ Jg97_s0 ≤ 366) → sv_E p l e { frames := 5, cells := 0, slots := 0, locals := 111 } s m args below meth c 8 g A ty (fun r σ' => (r = []) ∧ sv_inv sp_1 ty σ' ∧ sv_ofx [] [88, 89, 90, 91] ty σ σ') σ24 244 [(0, sv_r a), (1, sv_i p1), (2, sv_i y), (3, sv_i Xg8_l3), (4, sv_i Xg8_l4), (5, sv_i Xg19_l5), (6, sv_i Xg23_l6)] [sv_i Jg97_s0, sv_i Xg23_l6, sv_r v77] := by
                                  intro Jg97_s0 hJg97_s0
                                  refine sv_is C (n := 60) (by decide +kernel) (by rw [kv77]; rfl) (by decide) (by omega) (by omega) ⟨by omega, by omega⟩ (hTA _ (by rw [kv77]; decide)) hok88 (fun hok99 => ?_)
                                  have hI101 := Iσ24.up (a := v77) (k := (Xg23_l6 : Int).toNat) (z := Jg97_s0) (by rw [kv77]; exact trivial)
                                  have hF102 := Fσ24.up (a := v77) (k := (Xg23_l6 : Int).toNat) (z := Jg97_s0) (Or.inl (by rw [kv77]; decide))
                                  generalize eσ100 : sv_up σ24 v77 (Xg23_l6 : Int).toNat Jg97_s0 = σ100 at hok99 hI101 hF102 ⊢
                                  have t103 : σ100 a 0 = (v5 : Int) + 1 := by rw [← eσ100, sv_up_a (sv_ne k_a kv77 (by decide))]; exact eσ24_0
                                  have t104 : σ100 v5 (p1 : Int).toNat = v6 := by rw [← eσ100, sv_up_a (sv_ne kv5 kv77 (by decide))]; exact eσ24_1
                                  have t105 : σ100 a 28 = (v77 : Int) + 1 := by rw [← eσ100, sv_up_a (sv_ne k_a kv77 (by decide))]; exact ev77
                                  have t107 : σ100 a 8 = (v84 : Int) + 1 := by rw [← eσ100, sv_up_a (sv_ne k_a kv77 (by decide))]; exact ev84
                                  have t108 : σ100 v84 (vu89 : Int).toNat = v90 := by rw [← eσ100, sv_up_a (sv_ne kv84 kv77 (by decide))]; exact ev90
                                  have t109 : σ100 a 1 = (v91 : Int) + 1 := by rw [← eσ100, sv_up_a (sv_ne k_a kv77 (by decide))]; exact ev91
                                  have t110 : σ100 v91 (p1 : Int).toNat = v92 := by rw [← eσ100, sv_up_a (sv_ne kv91 kv77 (by decide))]; exact ev92
                                  have t111 : σ100 v77 (Xg23_l6 : Int).toNat = Jg97_s0 := by rw [← eσ100]; exact sv_up_s _ _ _ _
                                  refine sv_go C.1 C.2.1 [(.aload_n 0, 1)] (pc' := 246) (by decide +kernel) rfl (lv' := [(0, sv_r a), (1, sv_i p1), (2, sv_i y), (3, sv_i Xg8_l3), (4, sv_i Xg8_l4), (5, sv_i Xg19_l5), (6, sv_i Xg23_l6)]) (st' := [sv_r a]) rfl ?_
                                  obtain ⟨v112, ev112, kv112⟩ := hI101.ref (k := 29) k_a rfl
                                  refine sv_gf C (index := 115) (ci := 10) (k := 29) (r := (RX11, TX11, 47)) (v := sv_r v112) (by decide +kernel) (by rw [k_a]; rfl) rfl (by decide) fl_X11_115 (congrArg sv_a ev112) ?_
                                  refine sv_go C.1 C.2.1 [(.iload 6, 2), (.dup2, 1)] (pc' := 252) (by decide +kernel) rfl (lv' := [(0, sv_r a), (1, sv_i p1), (2, sv_i y), (3, sv_i Xg8_l3), (4, sv_i Xg8_l4), (5, sv_i Xg19_l5), (6, sv_i Xg23_l6)]) (st' := [sv_i Xg23_l6, sv_r v112, sv_i Xg23_l6, sv_r v112]) rfl ?_
                                  refine sv_ia C (n := 60) (by decide +kernel) (by rw [kv112]; rfl) (by decide) (by omega) (by omega) ?_
                                  obtain ⟨v113, ev113, hv113⟩ := sv_rde hok99 (a := v112) (k := (Xg23_l6 : Int).toNat) (n := 60) (by rw [kv112]; rfl) (by omega)
                                  rw [ev113]
                                  refine sv_go C.1 C.2.1 [(.iconst 1, 1), (.iadd, 1)] (pc' := 255) (by decide +kernel) rfl (lv' := [(0, sv_r a), (1, sv_i p1), (2, sv_i y), (3, sv_i Xg8_l3), (4, sv_i Xg8_l4), (5, sv_i Xg19_l5), (6, sv_i Xg23_l6)]) (st' := [sv_i (v113 + 1), sv_i Xg23_l6, sv_r v112]) rfl ?_
                                  obtain ⟨w114, hw114, ew114⟩ := sv_wr (v113 + 1)
                                  refine sv_sameD (st2 := [sv_i w114, sv_i Xg23_l6, sv_r v112]) (lv2 := [(0, sv_r a), (1, sv_i p1), (2, sv_i y), (3, sv_i Xg8_l3), (4, sv_i Xg8_l4), (5, sv_i Xg19_l5), (6, sv_i Xg23_l6)]) (by simp only [List.map_cons, List.map_nil, sv_den_i, ew114]) rfl ?_
                                  refine sv_is C (n := 60) (by decide +kernel) (by rw [kv112]; rfl) (by decide) (by omega) (by omega) ⟨by omega, by omega⟩ (hTA _ (by rw [kv112]; decide)) hok99 (fun hok115 => ?_)
                                  have hI117 := hI101.up (a := v112) (k := (Xg23_l6 : Int).toNat) (z := w114) (by rw [kv112]; exact trivial)
                                  have hF118 := hF102.up (a := v112) (k := (Xg23_l6 : Int).toNat) (z := w114) (Or.inl (by rw [kv112]; decide))
                                  generalize eσ116 : sv_up σ100 v112 (Xg23_l6 : Int).toNat w114 = σ116 at hok115 hI117 hF118 ⊢
                                  have t119 : σ116 a 0 = (v5 : Int) + 1 := by rw [← eσ116, sv_up_a (sv_ne k_a kv112 (by decide))]; exact t103
                                  have t120 : σ116 v5 (p1 : Int).toNat = v6 := by rw [← eσ116, sv_up_a (sv_ne kv5 kv112 (by decide))]; exact t104
                                  have t121 : σ116 a 28 = (v77 : Int) + 1 := by rw [← eσ116, sv_up_a (sv_ne k_a kv112 (by decide))]; exact t105
                                  have t122 : σ116 a 8 = (v84 : Int) + 1 := by rw [← eσ116, sv_up_a (sv_ne k_a kv112 (by decide))]; exact t107
                                  have t123 : σ116 v84 (vu89 : Int).toNat = v90 := by rw [← eσ116, sv_up_a (sv_ne kv84 kv112 (by decide))]; exact t108
                                  have t124 : σ116 a 1 = (v91 : Int) + 1 := by rw [← eσ116, sv_up_a (sv_ne k_a kv112 (by decide))]; exact t109
                                  have t125 : σ116 v91 (p1 : Int).toNat = v92 := by rw [← eσ116, sv_up_a (sv_ne kv91 kv112 (by decide))]; exact t110
                                  have t126 : σ116 v77 (Xg23_l6 : Int).toNat = Jg97_s0 := by rw [← eσ116, sv_up_a (sv_ne kv77 kv112 (by decide))]; exact t111
                                  have t127 : σ116 a 29 = (v112 : Int) + 1 := by rw [← eσ116, sv_up_a (sv_ne k_a kv112 (by decide))]; exact ev112
                                  have t129 : σ116 v112 (Xg23_l6 : Int).toNat = w114 := by rw [← eσ116]; exact sv_up_s _ _ _ _
                                  exact J82 Jg97_s0 σ116 ⟨by omega, by omega⟩ hok115 hI117 hF118 t119 t120 t121 t126
                                refine sv_if C.1 C.2.1 (cnd := .eq) (off := 10) (tgt := 242) (by decide +kernel) (by decide) ⟨by omega, by omega⟩ (fun (h96 : Jg94_s0 = 0) => ?_) (fun (h96 : ¬ (Jg94_s0 = 0)) => ?_)
                                · refine sv_go C.1 C.2.1 [(.bipush (-10), 2)] (pc' := 244) (by decide +kernel) rfl (lv' := [(0, sv_r a), (1, sv_i p1), (2, sv_i y), (3, sv_i Xg8_l3), (4, sv_i Xg8_l4), (5, sv_i Xg19_l5), (6, sv_i Xg23_l6), (7, sv_i Jg94_s0)]) (st' := [sv_i ((-10)), sv_i Xg23_l6, sv_r v77]) rfl ?_
                                  refine sv_pick [0, 1, 2, 3, 4, 5, 6] (lv2 := [(0, sv_r a), (1, sv_i p1), (2, sv_i y), (3, sv_i Xg8_l3), (4, sv_i Xg8_l4), (5, sv_i Xg19_l5), (6, sv_i Xg23_l6)]) rfl ?_
                                  exact J98 ((-10)) ⟨by omega, by omega⟩
                                · refine sv_go C.1 C.2.1 [(.iload 4, 2), (.iconst 1, 1), (.iadd, 1)] (pc' := 239) (by decide +kernel) rfl (lv' := [(0, sv_r a), (1, sv_i p1), (2, sv_i y), (3, sv_i Xg8_l3), (4, sv_i Xg8_l4), (5, sv_i Xg19_l5), (6, sv_i Xg23_l6), (7, sv_i Jg94_s0)]) (st' := [sv_i (Xg8_l4 + 1), sv_i Xg23_l6, sv_r v77]) rfl ?_
                                  refine sv_goto C.1 C.2.1 (off := 5) (tgt := 244) (by decide +kernel) (by decide) ?_
                                  refine sv_pick [0, 1, 2, 3, 4, 5, 6] (lv2 := [(0, sv_r a), (1, sv_i p1), (2, sv_i y), (3, sv_i Xg8_l3), (4, sv_i Xg8_l4), (5, sv_i Xg19_l5), (6, sv_i Xg23_l6)]) rfl ?_
                                  exact J98 (Xg8_l4 + 1) ⟨by omega, by omega⟩
                              refine sv_icmp C.1 C.2.1 (cnd := .gt) (off := 23) (tgt := 221) (by decide +kernel) (by decide) ⟨by omega, by omega⟩ ⟨by omega, by omega⟩ (fun (h93 : v92 < v90) => ?_) (fun (h93 : ¬ (v92 < v90)) => ?_)
                              · refine sv_go C.1 C.2.1 [(.iconst 0, 1)] (pc' := 222) (by decide +kernel) rfl (lv' := [(0, sv_r a), (1, sv_i p1), (2, sv_i y), (3, sv_i Xg8_l3), (4, sv_i Xg8_l4), (5, sv_i Xg19_l5), (6, sv_i Xg23_l6)]) (st' := [sv_i 0]) rfl ?_
                                exact J95 0 ⟨by omega, by omega⟩
                              · refine sv_go C.1 C.2.1 [(.aload_n 0, 1)] (pc' := 202) (by decide +kernel) rfl (lv' := [(0, sv_r a), (1, sv_i p1), (2, sv_i y), (3, sv_i Xg8_l3), (4, sv_i Xg8_l4), (5, sv_i Xg19_l5), (6, sv_i Xg23_l6)]) (st' := [sv_r a]) rfl ?_
                                obtain ⟨v130, ev130, kv130⟩ := Iσ24.ref (k := 29) k_a rfl
                                refine sv_gf C (index := 115) (ci := 10) (k := 29) (r := (RX11, TX11, 47)) (v := sv_r v130) (by decide +kernel) (by rw [k_a]; rfl) rfl (by decide) fl_X11_115 (congrArg sv_a ev130) ?_
                                refine sv_go C.1 C.2.1 [(.iload 6, 2)] (pc' := 207) (by decide +kernel) rfl (lv' := [(0, sv_r a), (1, sv_i p1), (2, sv_i y), (3, sv_i Xg8_l3), (4, sv_i Xg8_l4), (5, sv_i Xg19_l5), (6, sv_i Xg23_l6)]) (st' := [sv_i Xg23_l6, sv_r v130]) rfl ?_
                                refine sv_ia C (n := 60) (by decide +kernel) (by rw [kv130]; rfl) (by decide) (by omega) (by omega) ?_
                                obtain ⟨v131, ev131, hv131⟩ := sv_rde hok88 (a := v130) (k := (Xg23_l6 : Int).toNat) (n := 60) (by rw [kv130]; rfl) (by omega)
                                rw [ev131]
                                refine sv_go C.1 C.2.1 [(.aload_n 0, 1)] (pc' := 209) (by decide +kernel) rfl (lv' := [(0, sv_r a), (1, sv_i p1), (2, sv_i y), (3, sv_i Xg8_l3), (4, sv_i Xg8_l4), (5, sv_i Xg19_l5), (6, sv_i Xg23_l6)]) (st' := [sv_r a, sv_i v131]) rfl ?_
                                obtain ⟨v132, ev132, kv132⟩ := Iσ24.ref (k := 2) k_a rfl
                                refine sv_gf C (index := 54) (ci := 10) (k := 2) (r := (RX11, TX11, 47)) (v := sv_r v132) (by decide +kernel) (by rw [k_a]; rfl) rfl (by decide) fl_X11_54 (congrArg sv_a ev132) ?_
                                refine sv_go C.1 C.2.1 [(.iload_n 1, 1)] (pc' := 213) (by decide +kernel) rfl (lv' := [(0, sv_r a), (1, sv_i p1), (2, sv_i y), (3, sv_i Xg8_l3), (4, sv_i Xg8_l4), (5, sv_i Xg19_l5), (6, sv_i Xg23_l6)]) (st' := [sv_i p1, sv_r v132, sv_i v131]) rfl ?_
                                refine sv_ia C (n := 5) (by decide +kernel) (by rw [kv132]; rfl) (by decide) (by omega) (by omega) ?_
                                obtain ⟨v133, ev133, hv133⟩ := sv_rde hok88 (a := v132) (k := (p1 : Int).toNat) (n := 5) (by rw [kv132]; rfl) (by omega)
                                rw [ev133]
                                refine sv_icmp C.1 C.2.1 (cnd := .ge) (off := 7) (tgt := 221) (by decide +kernel) (by decide) ⟨by omega, by omega⟩ ⟨by omega, by omega⟩ (fun (h134 : v133 ≤ v131) => ?_) (fun (h134 : ¬ (v133 ≤ v131)) => ?_)
                                · refine sv_go C.1 C.2.1 [(.iconst 0, 1)] (pc' := 222) (by decide +kernel) rfl (lv' := [(0, sv_r a), (1, sv_i p1), (2, sv_i y), (3, sv_i Xg8_l3), (4, sv_i Xg8_l4), (5, sv_i Xg19_l5), (6, sv_i Xg23_l6)]) (st' := [sv_i 0]) rfl ?_
                                  exact J95 0 ⟨by omega, by omega⟩
                                · refine sv_go C.1 C.2.1 [(.iconst 1, 1)] (pc' := 218) (by decide +kernel) rfl (lv' := [(0, sv_r a), (1, sv_i p1), (2, sv_i y), (3, sv_i Xg8_l3), (4, sv_i Xg8_l4), (5, sv_i Xg19_l5), (6, sv_i Xg23_l6)]) (st' := [sv_i 1]) rfl ?_
                                  refine sv_goto C.1 C.2.1 (off := 4) (tgt := 222) (by decide +kernel) (by decide) ?_
                                  exact J95 1 ⟨by omega, by omega⟩
                            · refine sv_goto C.1 C.2.1 (off := 78) (tgt := 256) (by decide +kernel) (by decide) ?_
                              exact J82 v78 σ24 ⟨by omega, by omega⟩ okσ24 Iσ24 Fσ24 eσ24_0 eσ24_1 ev77 ev78
                    exact L25 (((60 - 0 : Int)).toNat + 1) 0 σ9 ⟨by omega, by omega⟩ hok15 Iσ9 Fσ9 eσ9_0 eσ9_1 (by omega)
                  · refine sv_go C.1 C.2.1 [(.aload_n 0, 1)] (pc' := 93) (by decide +kernel) rfl (lv' := [(0, sv_r a), (1, sv_i p1), (2, sv_i y), (3, sv_i Xg8_l3), (4, sv_i Xg8_l4), (5, sv_i Xg19_l5), (6, sv_i Xg19_l6)]) (st' := [sv_r a]) rfl ?_
                    obtain ⟨v135, ev135, kv135⟩ := Iσ9.ref (k := 28) k_a rfl
                    refine sv_gf C (index := 112) (ci := 10) (k := 28) (r := (RX11, TX11, 47)) (v := sv_r v135) (by decide +kernel) (by rw [k_a]; rfl) rfl (by decide) fl_X11_112 (congrArg sv_a ev135) ?_
                    refine sv_go C.1 C.2.1 [(.iload 6, 2)] (pc' := 98) (by decide +kernel) rfl (lv' := [(0, sv_r a), (1, sv_i p1), (2, sv_i y), (3, sv_i Xg8_l3), (4, sv_i Xg8_l4), (5, sv_i Xg19_l5), (6, sv_i Xg19_l6)]) (st' := [sv_i Xg19_l6, sv_r v135]) rfl ?_
                    refine sv_ia C (n := 60) (by decide +kernel) (by rw [kv135]; rfl) (by decide) (by omega) (by omega) ?_
                    obtain ⟨v136, ev136, hv136⟩ := sv_rde hok15 (a := v135) (k := (Xg19_l6 : Int).toNat) (n := 60) (by rw [kv135]; rfl) (by omega)
                    rw [ev136]
                    refine sv_go C.1 C.2.1 [(.iload 4, 2)] (pc' := 101) (by decide +kernel) rfl (lv' := [(0, sv_r a), (1, sv_i p1), (2, sv_i y), (3, sv_i Xg8_l3), (4, sv_i Xg8_l4), (5, sv_i Xg19_l5), (6, sv_i Xg19_l6)]) (st' := [sv_i Xg8_l4, sv_i v136]) rfl ?_
                    have J139 : ∀ (Jg138_l5 : Int), ((-1) ≤ Jg138_l5 ∧ Jg138_l5 ≤ 59) → sv_E p l e { frames := 5, cells := 0, slots := 0, locals := 111 } s m args below meth c 8 g A ty (fun r σ' => (r = []) ∧ sv_inv sp_1 ty σ' ∧ sv_ofx [] [88, 89, 90, 91] ty σ σ') σ9 139 [(0, sv_r a), (1, sv_i p1), (2, sv_i y), (3, sv_i Xg8_l3), (4, sv_i Xg8_l4), (5, sv_i Jg138_l5), (6, sv_i Xg19_l6)] [] := by
                      intro Jg138_l5 hJg138_l5
                      refine sv_go C.1 C.2.1 [(.iinc 6 1, 3)] (pc' := 142) (by decide +kernel) rfl (lv' := [(0, sv_r a), (1, sv_i p1), (2, sv_i y), (3, sv_i Xg8_l3), (4, sv_i Xg8_l4), (5, sv_i Jg138_l5), (6, sv_i (Xg19_l6 + 1))]) (st' := []) rfl ?_
                      refine sv_goto C.1 C.2.1 (off := (-61)) (tgt := 81) (by decide +kernel) (by decide) ?_
                      exact ih21 Jg138_l5 (Xg19_l6 + 1) ⟨by omega, by omega⟩ ⟨by omega, by omega⟩ (by omega)
                    refine sv_icmp C.1 C.2.1 (cnd := .ne) (off := 38) (tgt := 139) (by decide +kernel) (by decide) ⟨by omega, by omega⟩ ⟨by omega, by omega⟩ (fun (h137 : v136 ≠ Xg8_l4) => ?_) (fun (h137 : ¬ (v136 ≠ Xg8_l4)) => ?_)
                    · exact J139 Xg19_l5 ⟨by omega, by omega⟩
                    · refine sv_go C.1 C.2.1 [(.iload 5, 2), (.iconst (-1), 1)] (pc' := 107) (by decide +kernel) rfl (lv' := [(0, sv_r a), (1, sv_i p1), (2, sv_i y), (3, sv_i Xg8_l3), (4, sv_i Xg8_l4), (5, sv_i Xg19_l5), (6, sv_i Xg19_l6)]) (st' := [sv_i ((-1)), sv_i Xg19_l5]) rfl ?_
                      refine sv_icmp C.1 C.2.1 (cnd := .eq) (off := 28) (tgt := 135) (by decide +kernel) (by decide) ⟨by omega, by omega⟩ ⟨by omega, by omega⟩ (fun (h140 : Xg19_l5 = ((-1))) => ?_) (fun (h140 : ¬ (Xg19_l5 = ((-1)))) => ?_)
                      · refine sv_go C.1 C.2.1 [(.iload 6, 2), (.istore 5, 2)] (pc' := 139) (by decide +kernel) rfl (lv' := [(0, sv_r a), (1, sv_i p1), (2, sv_i y), (3, sv_i Xg8_l3), (4, sv_i Xg8_l4), (5, sv_i Xg19_l6), (6, sv_i Xg19_l6)]) (st' := []) rfl ?_
                        exact J139 Xg19_l6 ⟨by omega, by omega⟩
                      · refine sv_go C.1 C.2.1 [(.aload_n 0, 1)] (pc' := 111) (by decide +kernel) rfl (lv' := [(0, sv_r a), (1, sv_i p1), (2, sv_i y), (3, sv_i Xg8_l3), (4, sv_i Xg8_l4), (5, sv_i Xg19_l5), (6, sv_i Xg19_l6)]) (st' := [sv_r a]) rfl ?_
                        obtain ⟨v141, ev141, kv141⟩ := Iσ9.ref (k := 8) k_a rfl
                        refine sv_gf C (index := 72) (ci := 10) (k := 8) (r := (RX11, TX11, 47)) (v := sv_r v141) (by decide +kernel) (by rw [k_a]; rfl) rfl (by decide) fl_X11_72 (congrArg sv_a ev141) ?_
                        refine sv_go C.1 C.2.1 [(.iload_n 1, 1), (.iload 6, 2)] (pc' := 117) (by decide +kernel) rfl (lv' := [(0, sv_r a), (1, sv_i p1), (2, sv_i y), (3, sv_i Xg8_l3), (4, sv_i Xg8_l4), (5, sv_i Xg19_l5), (6, sv_i Xg19_l6)]) (st' := [sv_i Xg19_l6, sv_i p1, sv_r v141]) rfl ?_
                        refine sv_cs C (index := 166) (k := 2) (rest := [sv_r v141]) (by decide +kernel) (sf_X11_at l g A ty σ9 hok15 hTA Iσ9 (p1) ⟨by omega, by omega⟩ (Xg19_l6) ⟨by omega, by omega⟩) ⟨co_X11_at, in_X11, ⟨by decide, by decide, by decide +kernel⟩, Nat.le_of_ble_eq_true rfl, Nat.le_of_ble_eq_true rfl⟩ ml_X11_166 st_X11_at rfl rfl (Nat.le_of_ble_eq_true rfl) ⟨Nat.zero_le _, Nat.zero_le _⟩ (fun r143 σ144 hpo142 hok145 => ?_)
                        obtain ⟨rfl, ⟨vu146, rfl, hvu146⟩⟩ := hpo142
                        refine sv_same (st2 := [sv_i vu146, sv_r v141]) (lv2 := [(0, sv_r a), (1, sv_i p1), (2, sv_i y), (3, sv_i Xg8_l3), (4, sv_i Xg8_l4), (5, sv_i Xg19_l5), (6, sv_i Xg19_l6)]) rfl rfl ?_
                        refine sv_ia C (n := 300) (by decide +kernel) (by rw [kv141]; rfl) (by decide) (by omega) (by omega) ?_
                        obtain ⟨v147, ev147, hv147⟩ := sv_rdn Iσ9 (k := (vu146 : Int).toNat) kv141 rfl
                        rw [ev147]
                        refine sv_go C.1 C.2.1 [(.aload_n 0, 1)] (pc' := 122) (by decide +kernel) rfl (lv' := [(0, sv_r a), (1, sv_i p1), (2, sv_i y), (3, sv_i Xg8_l3), (4, sv_i Xg8_l4), (5, sv_i Xg19_l5), (6, sv_i Xg19_l6)]) (st' := [sv_r a, sv_i v147]) rfl ?_
                        refine sv_gf C (index := 72) (ci := 10) (k := 8) (r := (RX11, TX11, 47)) (v := sv_r v141) (by decide +kernel) (by rw [k_a]; rfl) rfl (by decide) fl_X11_72 (congrArg sv_a ev141) ?_
                        refine sv_go C.1 C.2.1 [(.iload_n 1, 1), (.iload 5, 2)] (pc' := 128) (by decide +kernel) rfl (lv' := [(0, sv_r a), (1, sv_i p1), (2, sv_i y), (3, sv_i Xg8_l3), (4, sv_i Xg8_l4), (5, sv_i Xg19_l5), (6, sv_i Xg19_l6)]) (st' := [sv_i Xg19_l5, sv_i p1, sv_r v141, sv_i v147]) rfl ?_
                        refine sv_cs C (index := 166) (k := 2) (rest := [sv_r v141, sv_i v147]) (by decide +kernel) (sf_X11_at l g A ty σ9 hok145 hTA Iσ9 (p1) ⟨by omega, by omega⟩ (Xg19_l5) ⟨by omega, by omega⟩) ⟨co_X11_at, in_X11, ⟨by decide, by decide, by decide +kernel⟩, Nat.le_of_ble_eq_true rfl, Nat.le_of_ble_eq_true rfl⟩ ml_X11_166 st_X11_at rfl rfl (Nat.le_of_ble_eq_true rfl) ⟨Nat.zero_le _, Nat.zero_le _⟩ (fun r149 σ150 hpo148 hok151 => ?_)
                        obtain ⟨rfl, ⟨vu152, rfl, hvu152⟩⟩ := hpo148
                        refine sv_same (st2 := [sv_i vu152, sv_r v141, sv_i v147]) (lv2 := [(0, sv_r a), (1, sv_i p1), (2, sv_i y), (3, sv_i Xg8_l3), (4, sv_i Xg8_l4), (5, sv_i Xg19_l5), (6, sv_i Xg19_l6)]) rfl rfl ?_
                        refine sv_ia C (n := 300) (by decide +kernel) (by rw [kv141]; rfl) (by decide) (by omega) (by omega) ?_
                        obtain ⟨v153, ev153, hv153⟩ := sv_rdn Iσ9 (k := (vu152 : Int).toNat) kv141 rfl
                        rw [ev153]
                        refine sv_icmp C.1 C.2.1 (cnd := .ge) (off := 7) (tgt := 139) (by decide +kernel) (by decide) ⟨by omega, by omega⟩ ⟨by omega, by omega⟩ (fun (h154 : v153 ≤ v147) => ?_) (fun (h154 : ¬ (v153 ≤ v147)) => ?_)
                        · exact J139 Xg19_l5 ⟨by omega, by omega⟩
                        · refine sv_go C.1 C.2.1 [(.iload 6, 2), (.istore 5, 2)] (pc' := 139) (by decide +kernel) rfl (lv' := [(0, sv_r a), (1, sv_i p1), (2, sv_i y), (3, sv_i Xg8_l3), (4, sv_i Xg8_l4), (5, sv_i Xg19_l6), (6, sv_i Xg19_l6)]) (st' := []) rfl ?_
                          exact J139 Xg19_l6 ⟨by omega, by omega⟩
              exact L20 (((60 - 0 : Int)).toNat + 1) ((-1)) 0 ⟨by omega, by omega⟩ ⟨by omega, by omega⟩ (by omega)
        exact L10 (((366 - 0 : Int)).toNat + 1) ((-1)) 0 σ2 ⟨by omega, by omega⟩ ⟨by omega, by omega⟩ okσ2 Iσ2 Fσ2 ev5 ev6 (by omega)
      · refine sv_go C.1 C.2.1 [(.aload_n 0, 1)] (pc' := 13) (by decide +kernel) rfl (lv' := [(0, sv_r a), (1, sv_i p1), (2, sv_i y), (3, sv_i Xg1_l3)]) (st' := [sv_r a]) rfl ?_
        obtain ⟨v155, ev155, kv155⟩ := Iσ2.ref (k := 28) k_a rfl
        refine sv_gf C (index := 112) (ci := 10) (k := 28) (r := (RX11, TX11, 47)) (v := sv_r v155) (by decide +kernel) (by rw [k_a]; rfl) rfl (by decide) fl_X11_112 (congrArg sv_a ev155) ?_
        refine sv_go C.1 C.2.1 [(.iload_n 3, 1), (.aload_n 0, 1), (.iload_n 1, 1), (.iload_n 2, 1), (.iload_n 3, 1)] (pc' := 21) (by decide +kernel) rfl (lv' := [(0, sv_r a), (1, sv_i p1), (2, sv_i y), (3, sv_i Xg1_l3)]) (st' := [sv_i Xg1_l3, sv_i y, sv_i p1, sv_r a, sv_i Xg1_l3, sv_r v155]) rfl ?_
        refine sv_cv C (index := 294) (k := 3) (rest := [sv_i Xg1_l3, sv_r v155]) (ci := 10) (r := (RX11, TX11, 47)) (by decide +kernel) (sf_X11_ownDay l g A ty σ2 okσ2 hTA Iσ2 a k_a (p1) ⟨by omega, by omega⟩ (y) ⟨by omega, by omega⟩ (Xg1_l3) ⟨by omega, by omega⟩) ⟨co_X11_ownDay, in_X11, ⟨by decide, by decide, by decide +kernel⟩, Nat.le_of_ble_eq_true rfl, Nat.le_of_ble_eq_true rfl⟩ ml_X11_294 im_X11_ownDay se_X11_ownDay (by rw [k_a]; rfl) rfl rfl rfl (Nat.le_of_ble_eq_true rfl) ⟨Nat.zero_le _, Nat.zero_le _⟩ (fun r157 σ158 hpo156 hok159 => ?_)
        obtain ⟨rfl, ⟨vu160, rfl, hvu160⟩⟩ := hpo156
        refine sv_same (st2 := [sv_i vu160, sv_i Xg1_l3, sv_r v155]) (lv2 := [(0, sv_r a), (1, sv_i p1), (2, sv_i y), (3, sv_i Xg1_l3)]) rfl rfl ?_
        refine sv_is C (n := 60) (by decide +kernel) (by rw [kv155]; rfl) (by decide) (by omega) (by omega) ⟨by omega, by omega⟩ (hTA _ (by rw [kv155]; decide)) hok159 (fun hok161 => ?_)
        have hI163 := Iσ2.up (a := v155) (k := (Xg1_l3 : Int).toNat) (z := vu160) (by rw [kv155]; exact trivial)
        have hF164 := Fσ2.up (a := v155) (k := (Xg1_l3 : Int).toNat) (z := vu160) (Or.inl (by rw [kv155]; decide))
        generalize eσ162 : sv_up σ2 v155 (Xg1_l3 : Int).toNat vu160 = σ162 at hok161 hI163 hF164 ⊢
        have t165 : σ162 a 0 = (v5 : Int) + 1 := by rw [← eσ162, sv_up_a (sv_ne k_a kv155 (by decide))]; exact ev5
        have t166 : σ162 v5 (p1 : Int).toNat = v6 := by rw [← eσ162, sv_up_a (sv_ne kv5 kv155 (by decide))]; exact ev6
        have t167 : σ162 a 28 = (v155 : Int) + 1 := by rw [← eσ162, sv_up_a (sv_ne k_a kv155 (by decide))]; exact ev155
        have t168 : σ162 v155 (Xg1_l3 : Int).toNat = vu160 := by rw [← eσ162]; exact sv_up_s _ _ _ _
        refine sv_go C.1 C.2.1 [(.aload_n 0, 1)] (pc' := 26) (by decide +kernel) rfl (lv' := [(0, sv_r a), (1, sv_i p1), (2, sv_i y), (3, sv_i Xg1_l3)]) (st' := [sv_r a]) rfl ?_
        obtain ⟨v169, ev169, kv169⟩ := hI163.ref (k := 29) k_a rfl
        refine sv_gf C (index := 115) (ci := 10) (k := 29) (r := (RX11, TX11, 47)) (v := sv_r v169) (by decide +kernel) (by rw [k_a]; rfl) rfl (by decide) fl_X11_115 (congrArg sv_a ev169) ?_
        refine sv_go C.1 C.2.1 [(.iload_n 3, 1), (.iconst 0, 1)] (pc' := 31) (by decide +kernel) rfl (lv' := [(0, sv_r a), (1, sv_i p1), (2, sv_i y), (3, sv_i Xg1_l3)]) (st' := [sv_i 0, sv_i Xg1_l3, sv_r v169]) rfl ?_
        refine sv_is C (n := 60) (by decide +kernel) (by rw [kv169]; rfl) (by decide) (by omega) (by omega) ⟨by omega, by omega⟩ (hTA _ (by rw [kv169]; decide)) hok161 (fun hok170 => ?_)
        have hI172 := hI163.up (a := v169) (k := (Xg1_l3 : Int).toNat) (z := 0) (by rw [kv169]; exact trivial)
        have hF173 := hF164.up (a := v169) (k := (Xg1_l3 : Int).toNat) (z := 0) (Or.inl (by rw [kv169]; decide))
        generalize eσ171 : sv_up σ162 v169 (Xg1_l3 : Int).toNat 0 = σ171 at hok170 hI172 hF173 ⊢
        have t174 : σ171 a 0 = (v5 : Int) + 1 := by rw [← eσ171, sv_up_a (sv_ne k_a kv169 (by decide))]; exact t165
        have t175 : σ171 v5 (p1 : Int).toNat = v6 := by rw [← eσ171, sv_up_a (sv_ne kv5 kv169 (by decide))]; exact t166
        have t176 : σ171 a 28 = (v155 : Int) + 1 := by rw [← eσ171, sv_up_a (sv_ne k_a kv169 (by decide))]; exact t167
        have t177 : σ171 v155 (Xg1_l3 : Int).toNat = vu160 := by rw [← eσ171, sv_up_a (sv_ne kv155 kv169 (by decide))]; exact t168
        have t178 : σ171 a 29 = (v169 : Int) + 1 := by rw [← eσ171, sv_up_a (sv_ne k_a kv169 (by decide))]; exact ev169
        have t179 : σ171 v169 (Xg1_l3 : Int).toNat = 0 := by rw [← eσ171]; exact sv_up_s _ _ _ _
        refine sv_go C.1 C.2.1 [(.aload_n 0, 1)] (pc' := 33) (by decide +kernel) rfl (lv' := [(0, sv_r a), (1, sv_i p1), (2, sv_i y), (3, sv_i Xg1_l3)]) (st' := [sv_r a]) rfl ?_
        obtain ⟨v180, ev180, kv180⟩ := hI172.ref (k := 30) k_a rfl
        refine sv_gf C (index := 118) (ci := 10) (k := 30) (r := (RX11, TX11, 47)) (v := sv_r v180) (by decide +kernel) (by rw [k_a]; rfl) rfl (by decide) fl_X11_118 (congrArg sv_a ev180) ?_
        refine sv_go C.1 C.2.1 [(.iload_n 3, 1), (.aload_n 0, 1)] (pc' := 38) (by decide +kernel) rfl (lv' := [(0, sv_r a), (1, sv_i p1), (2, sv_i y), (3, sv_i Xg1_l3)]) (st' := [sv_r a, sv_i Xg1_l3, sv_r v180]) rfl ?_
        refine sv_gf C (index := 112) (ci := 10) (k := 28) (r := (RX11, TX11, 47)) (v := sv_r v155) (by decide +kernel) (by rw [k_a]; rfl) rfl (by decide) fl_X11_112 (congrArg sv_a t176) ?_
        refine sv_go C.1 C.2.1 [(.iload_n 3, 1)] (pc' := 42) (by decide +kernel) rfl (lv' := [(0, sv_r a), (1, sv_i p1), (2, sv_i y), (3, sv_i Xg1_l3)]) (st' := [sv_i Xg1_l3, sv_r v155, sv_i Xg1_l3, sv_r v180]) rfl ?_
        refine sv_ia C (n := 60) (by decide +kernel) (by rw [kv155]; rfl) (by decide) (by omega) (by omega) ?_
        rw [t177]
        refine sv_go C.1 C.2.1 [(.bipush (-10), 2)] (pc' := 45) (by decide +kernel) rfl (lv' := [(0, sv_r a), (1, sv_i p1), (2, sv_i y), (3, sv_i Xg1_l3)]) (st' := [sv_i ((-10)), sv_i vu160, sv_i Xg1_l3, sv_r v180]) rfl ?_
        have J183 : ∀ (Jg182_s0 : Int), ((-10) ≤ Jg182_s0 ∧ Jg182_s0 ≤ (-1)) → sv_E p l e { frames := 5, cells := 0, slots := 0, locals := 111 } s m args below meth c 8 g A ty (fun r σ' => (r = []) ∧ sv_inv sp_1 ty σ' ∧ sv_ofx [] [88, 89, 90, 91] ty σ σ') σ171 54 [(0, sv_r a), (1, sv_i p1), (2, sv_i y), (3, sv_i Xg1_l3)] [sv_i Jg182_s0, sv_i Xg1_l3, sv_r v180] := by
          intro Jg182_s0 hJg182_s0
          refine sv_is C (n := 60) (by decide +kernel) (by rw [kv180]; rfl) (by decide) (by omega) (by omega) ⟨by omega, by omega⟩ (hTA _ (by rw [kv180]; decide)) hok170 (fun hok184 => ?_)
          have hI186 := hI172.up (a := v180) (k := (Xg1_l3 : Int).toNat) (z := Jg182_s0) (by rw [kv180]; exact trivial)
          have hF187 := hF173.up (a := v180) (k := (Xg1_l3 : Int).toNat) (z := Jg182_s0) (Or.inl (by rw [kv180]; decide))
          generalize eσ185 : sv_up σ171 v180 (Xg1_l3 : Int).toNat Jg182_s0 = σ185 at hok184 hI186 hF187 ⊢
          have t188 : σ185 a 0 = (v5 : Int) + 1 := by rw [← eσ185, sv_up_a (sv_ne k_a kv180 (by decide))]; exact t174
          have t189 : σ185 v5 (p1 : Int).toNat = v6 := by rw [← eσ185, sv_up_a (sv_ne kv5 kv180 (by decide))]; exact t175
          have t190 : σ185 a 28 = (v155 : Int) + 1 := by rw [← eσ185, sv_up_a (sv_ne k_a kv180 (by decide))]; exact t176
          have t191 : σ185 v155 (Xg1_l3 : Int).toNat = vu160 := by rw [← eσ185, sv_up_a (sv_ne kv155 kv180 (by decide))]; exact t177
          have t192 : σ185 a 29 = (v169 : Int) + 1 := by rw [← eσ185, sv_up_a (sv_ne k_a kv180 (by decide))]; exact t178
          have t193 : σ185 v169 (Xg1_l3 : Int).toNat = 0 := by rw [← eσ185, sv_up_a (sv_ne kv169 kv180 (by decide))]; exact t179
          have t194 : σ185 a 30 = (v180 : Int) + 1 := by rw [← eσ185, sv_up_a (sv_ne k_a kv180 (by decide))]; exact ev180
          have t195 : σ185 v180 (Xg1_l3 : Int).toNat = Jg182_s0 := by rw [← eσ185]; exact sv_up_s _ _ _ _
          refine sv_go C.1 C.2.1 [(.iinc 3 1, 3)] (pc' := 58) (by decide +kernel) rfl (lv' := [(0, sv_r a), (1, sv_i p1), (2, sv_i y), (3, sv_i (Xg1_l3 + 1))]) (st' := []) rfl ?_
          refine sv_goto C.1 C.2.1 (off := (-56)) (tgt := 2) (by decide +kernel) (by decide) ?_
          exact ih4 (Xg1_l3 + 1) σ185 ⟨by omega, by omega⟩ hok184 hI186 hF187 (by omega)
        refine sv_icmp C.1 C.2.1 (cnd := .ne) (off := 8) (tgt := 53) (by decide +kernel) (by decide) ⟨by omega, by omega⟩ ⟨by omega, by omega⟩ (fun (h181 : vu160 ≠ ((-10))) => ?_) (fun (h181 : ¬ (vu160 ≠ ((-10)))) => ?_)
        · refine sv_go C.1 C.2.1 [(.iconst (-1), 1)] (pc' := 54) (by decide +kernel) rfl (lv' := [(0, sv_r a), (1, sv_i p1), (2, sv_i y), (3, sv_i Xg1_l3)]) (st' := [sv_i ((-1)), sv_i Xg1_l3, sv_r v180]) rfl ?_
          exact J183 ((-1)) ⟨by omega, by omega⟩
        · refine sv_go C.1 C.2.1 [(.bipush (-10), 2)] (pc' := 50) (by decide +kernel) rfl (lv' := [(0, sv_r a), (1, sv_i p1), (2, sv_i y), (3, sv_i Xg1_l3)]) (st' := [sv_i ((-10)), sv_i Xg1_l3, sv_r v180]) rfl ?_
          refine sv_goto C.1 C.2.1 (off := 4) (tgt := 54) (by decide +kernel) (by decide) ?_
          exact J183 ((-10)) ⟨by omega, by omega⟩
  exact L3 (((60 - 0 : Int)).toNat + 1) 0 σ ⟨by omega, by omega⟩ hok hI hF (by omega)

theorem ml_X11_297 : Cond.methodLink RX11 297 yX11_isPlaced ∈ lw_good := sv_mem 1366 (by decide +kernel) rfl
theorem co_X11_isPlaced : Cond.code yX11_isPlaced cX11_isPlaced 4 (some .boolean) ∈ lw_good := sv_mem 1369 (by decide +kernel) rfl
theorem im_X11_isPlaced : Cond.instanceMethod yX11_isPlaced ∈ lw_good := sv_mem 1368 (by decide +kernel) rfl
theorem se_X11_isPlaced : Cond.selects RX11 yX11_isPlaced yX11_isPlaced ∈ lw_good := sv_mem 60 (by decide +kernel) rfl
theorem ml_X11_301 : Cond.methodLink RX11 301 yX11_lead ∈ lw_good := sv_mem 1370 (by decide +kernel) rfl
theorem co_X11_lead : Cond.code yX11_lead cX11_lead 8 none ∈ lw_good := sv_mem 1373 (by decide +kernel) rfl
theorem im_X11_lead : Cond.instanceMethod yX11_lead ∈ lw_good := sv_mem 1372 (by decide +kernel) rfl
theorem se_X11_lead : Cond.selects RX11 yX11_lead yX11_lead ∈ lw_good := sv_mem 61 (by decide +kernel) rfl
set_option maxHeartbeats 4000000 in
set_option maxRecDepth 100000 in
theorem sf_X11_office (l : Launch) (g : sv_G) (A : Nat → Prop) (ty : Nat → Nat) (σ : Nat → Nat → Int) (hok : sv_ok ty σ) (hTA : ∀ q, ty q ≠ 0 → A q) (hI : sv_inv sp_1 ty σ) (a : Nat) (k_a : ty a = 10) (ar1 : Int) (h_ar1 : (-2147483648) ≤ ar1 ∧ ar1 ≤ 2147483647) (ar2 : Int) (h_ar2 : (-2147483648) ≤ ar2 ∧ ar2 ≤ 2147483647) (ar3 : Int) (h_ar3 : (-2147483648) ≤ ar3 ∧ ar3 ≤ 2147483647) : sv_M l yX11_office cX11_office 4 (some .int) { frames := 6, cells := 0, slots := 0, locals := 138 } g A ty σ [sv_r a, sv_i ar1, sv_i ar2, sv_i ar3] (fun r σ' => (∃ rv : Int, r = [sv_i rv] ∧ ((-79) ≤ rv ∧ rv ≤ 59)) ∧ sv_inv sp_1 ty σ' ∧ sv_ofx [] [88, 89, 90, 91] ty σ σ') := by
  refine sv_enter (by decide) (Nat.le_of_ble_eq_true rfl) ?_
  intro p e s m args below meth c C hr
  have C : sv_C g A RX11 cX11_office 4 p s m args meth c := C
  have hr : meth.sig.returnType = (some .int) := hr
  have hF : sv_ofx [] [88, 89, 90, 91] ty σ σ := sv_ofx.rf
  refine sv_same (st2 := []) (lv2 := [(0, sv_r a), (1, sv_i ar1), (2, sv_i ar2), (3, sv_i ar3)]) rfl rfl ?_
  refine sv_go C.1 C.2.1 [(.aload_n 0, 1), (.iload_n 1, 1), (.iload_n 2, 1), (.iload_n 3, 1)] (pc' := 4) (by decide +kernel) rfl (lv' := [(0, sv_r a), (1, sv_i ar1), (2, sv_i ar2), (3, sv_i ar3)]) (st' := [sv_i ar3, sv_i ar2, sv_i ar1, sv_r a]) rfl ?_
  refine sv_cv C (index := 297) (k := 3) (rest := []) (ci := 10) (r := (RX11, TX11, 47)) (by decide +kernel) (sf_X11_isPlaced l g A ty σ hok hTA hI a k_a (ar1) ⟨by omega, by omega⟩ (ar2) ⟨by omega, by omega⟩ (ar3) ⟨by omega, by omega⟩) ⟨co_X11_isPlaced, in_X11, ⟨by decide, by decide, by decide +kernel⟩, Nat.le_of_ble_eq_true rfl, Nat.le_of_ble_eq_true rfl⟩ ml_X11_297 im_X11_isPlaced se_X11_isPlaced (by rw [k_a]; rfl) rfl rfl rfl (Nat.le_of_ble_eq_true rfl) ⟨Nat.zero_le _, Nat.zero_le _⟩ (fun r2 σ3 hpo1 hok4 => ?_)
  obtain ⟨rfl, ⟨vu5, rfl, hvu5, ivu5_0⟩⟩ := hpo1
  refine sv_same (st2 := [sv_i vu5]) (lv2 := [(0, sv_r a), (1, sv_i ar1), (2, sv_i ar2), (3, sv_i ar3)]) rfl rfl ?_
  refine sv_if C.1 C.2.1 (cnd := .ne) (off := 6) (tgt := 13) (by decide +kernel) (by decide) ⟨by omega, by omega⟩ (fun (h6 : vu5 ≠ 0) => ?_) (fun (h6 : ¬ (vu5 ≠ 0)) => ?_)
  · have hp7 := ivu5_0 (by omega) (by omega)
    refine sv_go C.1 C.2.1 [(.aload_n 0, 1), (.iload_n 1, 1), (.iload_n 2, 1)] (pc' := 16) (by decide +kernel) rfl (lv' := [(0, sv_r a), (1, sv_i ar1), (2, sv_i ar2), (3, sv_i ar3)]) (st' := [sv_i ar2, sv_i ar1, sv_r a]) rfl ?_
    refine sv_cv C (index := 301) (k := 2) (rest := []) (ci := 10) (r := (RX11, TX11, 47)) (by decide +kernel) (sf_X11_lead l g A ty σ hok4 hTA hI a k_a (ar1) ⟨by omega, by omega⟩ (ar2) ⟨by omega, by omega⟩) ⟨co_X11_lead, in_X11, ⟨by decide, by decide, by decide +kernel⟩, Nat.le_of_ble_eq_true rfl, Nat.le_of_ble_eq_true rfl⟩ ml_X11_301 im_X11_lead se_X11_lead (by rw [k_a]; rfl) rfl rfl rfl (Nat.le_of_ble_eq_true rfl) ⟨Nat.zero_le _, Nat.zero_le _⟩ (fun r9 σ10 hpo8 hok11 => ?_)
    obtain ⟨rfl, hIu12, hFu12⟩ := hpo8
    have hGu12 := hF.tr hFu12 (by decide) (by decide)
    refine sv_same (st2 := []) (lv2 := [(0, sv_r a), (1, sv_i ar1), (2, sv_i ar2), (3, sv_i ar3)]) rfl rfl ?_
    refine sv_go C.1 C.2.1 [(.aload_n 0, 1)] (pc' := 20) (by decide +kernel) rfl (lv' := [(0, sv_r a), (1, sv_i ar1), (2, sv_i ar2), (3, sv_i ar3)]) (st' := [sv_r a]) rfl ?_
    obtain ⟨v13, ev13, kv13⟩ := hIu12.ref (k := 31) k_a rfl
    refine sv_gf C (index := 121) (ci := 10) (k := 31) (r := (RX11, TX11, 47)) (v := sv_r v13) (by decide +kernel) (by rw [k_a]; rfl) rfl (by decide) fl_X11_121 (congrArg sv_a ev13) ?_
    refine sv_go C.1 C.2.1 [(.iload_n 3, 1)] (pc' := 24) (by decide +kernel) rfl (lv' := [(0, sv_r a), (1, sv_i ar1), (2, sv_i ar2), (3, sv_i ar3)]) (st' := [sv_i ar3, sv_r v13]) rfl ?_
    refine sv_ia C (n := 366) (by decide +kernel) (by rw [kv13]; rfl) (by decide) (by omega) (by omega) ?_
    obtain ⟨v14, ev14, hv14⟩ := sv_rdn hIu12 (k := (ar3 : Int).toNat) kv13 rfl
    rw [ev14]
    exact sv_iret C hr (by decide +kernel) hok11 (⟨⟨_, rfl, ⟨by omega, by omega⟩⟩, hIu12, hGu12⟩)
  · refine sv_go C.1 C.2.1 [(.bipush (-2), 2)] (pc' := 12) (by decide +kernel) rfl (lv' := [(0, sv_r a), (1, sv_i ar1), (2, sv_i ar2), (3, sv_i ar3)]) (st' := [sv_i ((-2))]) rfl ?_
    exact sv_iret C hr (by decide +kernel) hok4 (⟨⟨_, rfl, ⟨by omega, by omega⟩⟩, hI, hF⟩)

set_option maxHeartbeats 4000000 in
set_option maxRecDepth 100000 in
theorem sf_X11_held (l : Launch) (g : sv_G) (A : Nat → Prop) (ty : Nat → Nat) (σ : Nat → Nat → Int) (hok : sv_ok ty σ) (hTA : ∀ q, ty q ≠ 0 → A q) (hI : sv_inv sp_1 ty σ) (a : Nat) (k_a : ty a = 10) (ar1 : Int) (h_ar1 : (-2147483648) ≤ ar1 ∧ ar1 ≤ 2147483647) (ar2 : Int) (h_ar2 : (-2147483648) ≤ ar2 ∧ ar2 ≤ 2147483647) (ar3 : Int) (h_ar3 : (-2147483648) ≤ ar3 ∧ ar3 ≤ 2147483647) : sv_M l yX11_held cX11_held 4 (some .int) { frames := 6, cells := 0, slots := 0, locals := 138 } g A ty σ [sv_r a, sv_i ar1, sv_i ar2, sv_i ar3] (fun r σ' => (∃ rv : Int, r = [sv_i rv] ∧ ((-2147483648) ≤ rv ∧ rv ≤ 2147483647)) ∧ sv_inv sp_1 ty σ' ∧ sv_ofx [] [88, 89, 90, 91] ty σ σ') := by
  refine sv_enter (by decide) (Nat.le_of_ble_eq_true rfl) ?_
  intro p e s m args below meth c C hr
  have C : sv_C g A RX11 cX11_held 4 p s m args meth c := C
  have hr : meth.sig.returnType = (some .int) := hr
  have hF : sv_ofx [] [88, 89, 90, 91] ty σ σ := sv_ofx.rf
  refine sv_same (st2 := []) (lv2 := [(0, sv_r a), (1, sv_i ar1), (2, sv_i ar2), (3, sv_i ar3)]) rfl rfl ?_
  refine sv_go C.1 C.2.1 [(.aload_n 0, 1), (.iload_n 1, 1), (.iload_n 3, 1)] (pc' := 3) (by decide +kernel) rfl (lv' := [(0, sv_r a), (1, sv_i ar1), (2, sv_i ar2), (3, sv_i ar3)]) (st' := [sv_i ar3, sv_i ar1, sv_r a]) rfl ?_
  refine sv_cv C (index := 287) (k := 2) (rest := []) (ci := 10) (r := (RX11, TX11, 47)) (by decide +kernel) (sf_X11_isFeast l g A ty σ hok hTA hI a k_a (ar1) ⟨by omega, by omega⟩ (ar3) ⟨by omega, by omega⟩) ⟨co_X11_isFeast, in_X11, ⟨by decide, by decide, by decide +kernel⟩, Nat.le_of_ble_eq_true rfl, Nat.le_of_ble_eq_true rfl⟩ ml_X11_287 im_X11_isFeast se_X11_isFeast (by rw [k_a]; rfl) rfl rfl rfl (Nat.le_of_ble_eq_true rfl) ⟨Nat.zero_le _, Nat.zero_le _⟩ (fun r2 σ3 hpo1 hok4 => ?_)
  obtain ⟨rfl, ⟨vu5, rfl, hvu5, ivu5_0⟩⟩ := hpo1
  refine sv_same (st2 := [sv_i vu5]) (lv2 := [(0, sv_r a), (1, sv_i ar1), (2, sv_i ar2), (3, sv_i ar3)]) rfl rfl ?_
  refine sv_if C.1 C.2.1 (cnd := .eq) (off := 10) (tgt := 16) (by decide +kernel) (by decide) ⟨by omega, by omega⟩ (fun (h6 : vu5 = 0) => ?_) (fun (h6 : ¬ (vu5 = 0)) => ?_)
  · refine sv_go C.1 C.2.1 [(.bipush (-2), 2)] (pc' := 18) (by decide +kernel) rfl (lv' := [(0, sv_r a), (1, sv_i ar1), (2, sv_i ar2), (3, sv_i ar3)]) (st' := [sv_i ((-2))]) rfl ?_
    exact sv_iret C hr (by decide +kernel) hok4 (⟨⟨_, rfl, ⟨by omega, by omega⟩⟩, hI, hF⟩)
  · have hp7 := ivu5_0 (by omega) (by omega)
    refine sv_go C.1 C.2.1 [(.iload_n 2, 1)] (pc' := 10) (by decide +kernel) rfl (lv' := [(0, sv_r a), (1, sv_i ar1), (2, sv_i ar2), (3, sv_i ar3)]) (st' := [sv_i ar2]) rfl ?_
    refine sv_cs C (index := 13) (k := 1) (rest := []) (by decide +kernel) (ct_X11_isYear l g A ty σ hok4 (ar2) ⟨by omega, by omega⟩) ⟨co_X11_isYear, in_X11, ⟨by decide, by decide, by decide +kernel⟩, Nat.le_of_ble_eq_true rfl, Nat.le_of_ble_eq_true rfl⟩ ml_X11_13 st_X11_isYear rfl rfl (Nat.le_of_ble_eq_true rfl) ⟨Nat.zero_le _, Nat.zero_le _⟩ (fun r9 σ10 hpo8 hok11 => ?_)
    obtain ⟨rfl, ⟨h12, rfl⟩ | ⟨h12, rfl⟩⟩ := hpo8
    · refine sv_same (st2 := [sv_i 1]) (lv2 := [(0, sv_r a), (1, sv_i ar1), (2, sv_i ar2), (3, sv_i ar3)]) rfl rfl ?_
      refine sv_if_t C.1 C.2.1 (cnd := .ne) (off := 6) (tgt := 19) (by decide +kernel) (by decide) ⟨by omega, by omega⟩ (show 1 ≠ 0 by omega) ?_
      refine sv_go C.1 C.2.1 [(.aload_n 0, 1), (.iload_n 1, 1), (.iload_n 2, 1)] (pc' := 22) (by decide +kernel) rfl (lv' := [(0, sv_r a), (1, sv_i ar1), (2, sv_i ar2), (3, sv_i ar3)]) (st' := [sv_i ar2, sv_i ar1, sv_r a]) rfl ?_
      refine sv_cv C (index := 301) (k := 2) (rest := []) (ci := 10) (r := (RX11, TX11, 47)) (by decide +kernel) (sf_X11_lead l g A ty σ hok11 hTA hI a k_a (ar1) ⟨by omega, by omega⟩ (ar2) ⟨by omega, by omega⟩) ⟨co_X11_lead, in_X11, ⟨by decide, by decide, by decide +kernel⟩, Nat.le_of_ble_eq_true rfl, Nat.le_of_ble_eq_true rfl⟩ ml_X11_301 im_X11_lead se_X11_lead (by rw [k_a]; rfl) rfl rfl rfl (Nat.le_of_ble_eq_true rfl) ⟨Nat.zero_le _, Nat.zero_le _⟩ (fun r14 σ15 hpo13 hok16 => ?_)
      obtain ⟨rfl, hIu17, hFu17⟩ := hpo13
      have hGu17 := hF.tr hFu17 (by decide) (by decide)
      refine sv_same (st2 := []) (lv2 := [(0, sv_r a), (1, sv_i ar1), (2, sv_i ar2), (3, sv_i ar3)]) rfl rfl ?_
      refine sv_go C.1 C.2.1 [(.aload_n 0, 1)] (pc' := 26) (by decide +kernel) rfl (lv' := [(0, sv_r a), (1, sv_i ar1), (2, sv_i ar2), (3, sv_i ar3)]) (st' := [sv_r a]) rfl ?_
      obtain ⟨v18, ev18, kv18⟩ := hIu17.ref (k := 30) k_a rfl
      refine sv_gf C (index := 118) (ci := 10) (k := 30) (r := (RX11, TX11, 47)) (v := sv_r v18) (by decide +kernel) (by rw [k_a]; rfl) rfl (by decide) fl_X11_118 (congrArg sv_a ev18) ?_
      refine sv_go C.1 C.2.1 [(.iload_n 3, 1)] (pc' := 30) (by decide +kernel) rfl (lv' := [(0, sv_r a), (1, sv_i ar1), (2, sv_i ar2), (3, sv_i ar3)]) (st' := [sv_i ar3, sv_r v18]) rfl ?_
      refine sv_ia C (n := 60) (by decide +kernel) (by rw [kv18]; rfl) (by decide) (by omega) (by omega) ?_
      obtain ⟨v19, ev19, hv19⟩ := sv_rde hok16 (a := v18) (k := (ar3 : Int).toNat) (n := 60) (by rw [kv18]; rfl) (by omega)
      rw [ev19]
      exact sv_iret C hr (by decide +kernel) hok16 (⟨⟨_, rfl, ⟨by omega, by omega⟩⟩, hIu17, hGu17⟩)
    · refine sv_same (st2 := [sv_i 0]) (lv2 := [(0, sv_r a), (1, sv_i ar1), (2, sv_i ar2), (3, sv_i ar3)]) rfl rfl ?_
      refine sv_if_f C.1 C.2.1 (cnd := .ne) (off := 6) (tgt := 19) (by decide +kernel) (by decide) ⟨by omega, by omega⟩ (show ¬ (0 ≠ 0) by omega) ?_
      refine sv_go C.1 C.2.1 [(.bipush (-2), 2)] (pc' := 18) (by decide +kernel) rfl (lv' := [(0, sv_r a), (1, sv_i ar1), (2, sv_i ar2), (3, sv_i ar3)]) (st' := [sv_i ((-2))]) rfl ?_
      exact sv_iret C hr (by decide +kernel) hok11 (⟨⟨_, rfl, ⟨by omega, by omega⟩⟩, hI, hF⟩)

set_option maxHeartbeats 4000000 in
set_option maxRecDepth 100000 in
theorem sf_X11_own (l : Launch) (g : sv_G) (A : Nat → Prop) (ty : Nat → Nat) (σ : Nat → Nat → Int) (hok : sv_ok ty σ) (hTA : ∀ q, ty q ≠ 0 → A q) (hI : sv_inv sp_1 ty σ) (a : Nat) (k_a : ty a = 10) (ar1 : Int) (h_ar1 : (-2147483648) ≤ ar1 ∧ ar1 ≤ 2147483647) (ar2 : Int) (h_ar2 : (-2147483648) ≤ ar2 ∧ ar2 ≤ 2147483647) (ar3 : Int) (h_ar3 : (-2147483648) ≤ ar3 ∧ ar3 ≤ 2147483647) : sv_M l yX11_own cX11_own 4 (some .int) { frames := 5, cells := 0, slots := 0, locals := 111 } g A ty σ [sv_r a, sv_i ar1, sv_i ar2, sv_i ar3] (fun r σ' => σ = σ' ∧ ∃ rv : Int, r = [sv_i rv] ∧ ((-637) ≤ rv ∧ rv ≤ 3427)) := by
  refine sv_enter (by decide) (Nat.le_of_ble_eq_true rfl) ?_
  intro p e s m args below meth c C hr
  have C : sv_C g A RX11 cX11_own 4 p s m args meth c := C
  have hr : meth.sig.returnType = (some .int) := hr
  have hF : sv_ofx [] [] ty σ σ := sv_ofx.rf
  refine sv_same (st2 := []) (lv2 := [(0, sv_r a), (1, sv_i ar1), (2, sv_i ar2), (3, sv_i ar3)]) rfl rfl ?_
  refine sv_go C.1 C.2.1 [(.aload_n 0, 1), (.iload_n 1, 1), (.iload_n 3, 1)] (pc' := 3) (by decide +kernel) rfl (lv' := [(0, sv_r a), (1, sv_i ar1), (2, sv_i ar2), (3, sv_i ar3)]) (st' := [sv_i ar3, sv_i ar1, sv_r a]) rfl ?_
  refine sv_cv C (index := 287) (k := 2) (rest := []) (ci := 10) (r := (RX11, TX11, 47)) (by decide +kernel) (sf_X11_isFeast l g A ty σ hok hTA hI a k_a (ar1) ⟨by omega, by omega⟩ (ar3) ⟨by omega, by omega⟩) ⟨co_X11_isFeast, in_X11, ⟨by decide, by decide, by decide +kernel⟩, Nat.le_of_ble_eq_true rfl, Nat.le_of_ble_eq_true rfl⟩ ml_X11_287 im_X11_isFeast se_X11_isFeast (by rw [k_a]; rfl) rfl rfl rfl (Nat.le_of_ble_eq_true rfl) ⟨Nat.zero_le _, Nat.zero_le _⟩ (fun r2 σ3 hpo1 hok4 => ?_)
  obtain ⟨rfl, ⟨vu5, rfl, hvu5, ivu5_0⟩⟩ := hpo1
  refine sv_same (st2 := [sv_i vu5]) (lv2 := [(0, sv_r a), (1, sv_i ar1), (2, sv_i ar2), (3, sv_i ar3)]) rfl rfl ?_
  refine sv_if C.1 C.2.1 (cnd := .eq) (off := 20) (tgt := 26) (by decide +kernel) (by decide) ⟨by omega, by omega⟩ (fun (h6 : vu5 = 0) => ?_) (fun (h6 : ¬ (vu5 = 0)) => ?_)
  · refine sv_go C.1 C.2.1 [(.bipush (-2), 2)] (pc' := 28) (by decide +kernel) rfl (lv' := [(0, sv_r a), (1, sv_i ar1), (2, sv_i ar2), (3, sv_i ar3)]) (st' := [sv_i ((-2))]) rfl ?_
    exact sv_iret C hr (by decide +kernel) hok4 (⟨rfl, ⟨_, rfl, ⟨by omega, by omega⟩⟩⟩)
  · have hp7 := ivu5_0 (by omega) (by omega)
    refine sv_go C.1 C.2.1 [(.iload_n 2, 1)] (pc' := 10) (by decide +kernel) rfl (lv' := [(0, sv_r a), (1, sv_i ar1), (2, sv_i ar2), (3, sv_i ar3)]) (st' := [sv_i ar2]) rfl ?_
    refine sv_cs C (index := 13) (k := 1) (rest := []) (by decide +kernel) (ct_X11_isYear l g A ty σ hok4 (ar2) ⟨by omega, by omega⟩) ⟨co_X11_isYear, in_X11, ⟨by decide, by decide, by decide +kernel⟩, Nat.le_of_ble_eq_true rfl, Nat.le_of_ble_eq_true rfl⟩ ml_X11_13 st_X11_isYear rfl rfl (Nat.le_of_ble_eq_true rfl) ⟨Nat.zero_le _, Nat.zero_le _⟩ (fun r9 σ10 hpo8 hok11 => ?_)
    obtain ⟨rfl, ⟨h12, rfl⟩ | ⟨h12, rfl⟩⟩ := hpo8
    · refine sv_same (st2 := [sv_i 1]) (lv2 := [(0, sv_r a), (1, sv_i ar1), (2, sv_i ar2), (3, sv_i ar3)]) rfl rfl ?_
      refine sv_if_f C.1 C.2.1 (cnd := .eq) (off := 13) (tgt := 26) (by decide +kernel) (by decide) ⟨by omega, by omega⟩ (show ¬ (1 = 0) by omega) ?_
      refine sv_go C.1 C.2.1 [(.aload_n 0, 1), (.iload_n 1, 1), (.iload_n 2, 1), (.iload_n 3, 1)] (pc' := 20) (by decide +kernel) rfl (lv' := [(0, sv_r a), (1, sv_i ar1), (2, sv_i ar2), (3, sv_i ar3)]) (st' := [sv_i ar3, sv_i ar2, sv_i ar1, sv_r a]) rfl ?_
      refine sv_cv C (index := 294) (k := 3) (rest := []) (ci := 10) (r := (RX11, TX11, 47)) (by decide +kernel) (sf_X11_ownDay l g A ty σ hok11 hTA hI a k_a (ar1) ⟨by omega, by omega⟩ (ar2) ⟨by omega, by omega⟩ (ar3) ⟨by omega, by omega⟩) ⟨co_X11_ownDay, in_X11, ⟨by decide, by decide, by decide +kernel⟩, Nat.le_of_ble_eq_true rfl, Nat.le_of_ble_eq_true rfl⟩ ml_X11_294 im_X11_ownDay se_X11_ownDay (by rw [k_a]; rfl) rfl rfl rfl (Nat.le_of_ble_eq_true rfl) ⟨Nat.zero_le _, Nat.zero_le _⟩ (fun r14 σ15 hpo13 hok16 => ?_)
      obtain ⟨rfl, ⟨vu17, rfl, hvu17⟩⟩ := hpo13
      refine sv_same (st2 := [sv_i vu17]) (lv2 := [(0, sv_r a), (1, sv_i ar1), (2, sv_i ar2), (3, sv_i ar3)]) rfl rfl ?_
      refine sv_goto C.1 C.2.1 (off := 5) (tgt := 28) (by decide +kernel) (by decide) ?_
      exact sv_iret C hr (by decide +kernel) hok16 (⟨rfl, ⟨_, rfl, ⟨by omega, by omega⟩⟩⟩)
    · refine sv_same (st2 := [sv_i 0]) (lv2 := [(0, sv_r a), (1, sv_i ar1), (2, sv_i ar2), (3, sv_i ar3)]) rfl rfl ?_
      refine sv_if_t C.1 C.2.1 (cnd := .eq) (off := 13) (tgt := 26) (by decide +kernel) (by decide) ⟨by omega, by omega⟩ (show 0 = 0 by omega) ?_
      refine sv_go C.1 C.2.1 [(.bipush (-2), 2)] (pc' := 28) (by decide +kernel) rfl (lv' := [(0, sv_r a), (1, sv_i ar1), (2, sv_i ar2), (3, sv_i ar3)]) (st' := [sv_i ((-2))]) rfl ?_
      exact sv_iret C hr (by decide +kernel) hok11 (⟨rfl, ⟨_, rfl, ⟨by omega, by omega⟩⟩⟩)

set_option maxHeartbeats 4000000 in
set_option maxRecDepth 100000 in
theorem sf_X11_isVigil (l : Launch) (g : sv_G) (A : Nat → Prop) (ty : Nat → Nat) (σ : Nat → Nat → Int) (hok : sv_ok ty σ) (hTA : ∀ q, ty q ≠ 0 → A q) (hI : sv_inv sp_1 ty σ) (a : Nat) (k_a : ty a = 10) (p1 : Int) (h_p1 : 0 ≤ p1 ∧ p1 ≤ 3) (y : Int) (h_y : 1 ≤ y ∧ y ≤ 2000) (d : Int) (h_d : 0 ≤ d ∧ d ≤ 370) : sv_M l yX11_isVigil cX11_isVigil 4 (some .boolean) { frames := 2, cells := 0, slots := 0, locals := 40 } g A ty σ [sv_r a, sv_i p1, sv_i y, sv_i d] (fun r σ' => σ = σ' ∧ ∃ rv : Int, r = [sv_i rv] ∧ (0 ≤ rv ∧ rv ≤ 1)) := by
  refine sv_enter (by decide) (Nat.le_of_ble_eq_true rfl) ?_
  intro p e s m args below meth c C hr
  have C : sv_C g A RX11 cX11_isVigil 4 p s m args meth c := C
  have hr : meth.sig.returnType = (some .boolean) := hr
  have hF : sv_ofx [] [] ty σ σ := sv_ofx.rf
  refine sv_same (st2 := []) (lv2 := [(0, sv_r a), (1, sv_i p1), (2, sv_i y), (3, sv_i d)]) rfl rfl ?_
  refine sv_go C.1 C.2.1 [(.iload_n 3, 1)] (pc' := 1) (by decide +kernel) rfl (lv' := [(0, sv_r a), (1, sv_i p1), (2, sv_i y), (3, sv_i d)]) (st' := [sv_i d]) rfl ?_
  refine sv_i2l C.1 C.2.1 (by decide +kernel) ⟨by omega, by omega⟩ ?_
  refine sv_go C.1 C.2.1 [(.lconst 0, 1), (.iload_n 2, 1)] (pc' := 4) (by decide +kernel) rfl (lv' := [(0, sv_r a), (1, sv_i p1), (2, sv_i y), (3, sv_i d)]) (st' := [sv_i y, sv_l 0, sv_l d]) rfl ?_
  refine sv_cs C (index := 16) (k := 1) (rest := [sv_l 0, sv_l d]) (by decide +kernel) (ct_X11_daysOf l g A ty σ hok (y) ⟨by omega, by omega⟩) ⟨co_X11_daysOf, in_X11, ⟨by decide, by decide, by decide +kernel⟩, Nat.le_of_ble_eq_true rfl, Nat.le_of_ble_eq_true rfl⟩ ml_X11_16 st_X11_daysOf rfl rfl (Nat.le_of_ble_eq_true rfl) ⟨Nat.zero_le _, Nat.zero_le _⟩ (fun r2 σ3 hpo1 hok4 => ?_)
  obtain ⟨rfl, rfl⟩ := hpo1
  have hn6 := dy_lp_in y
  refine sv_same (st2 := [sv_i (365 + dy_lp y), sv_l 0, sv_l d]) (lv2 := [(0, sv_r a), (1, sv_i p1), (2, sv_i y), (3, sv_i d)]) rfl rfl ?_
  refine sv_i2l C.1 C.2.1 (by decide +kernel) ⟨by omega, by omega⟩ ?_
  refine sv_go C.1 C.2.1 [(.lconst 1, 1), (.lsub, 1)] (pc' := 10) (by decide +kernel) rfl (lv' := [(0, sv_r a), (1, sv_i p1), (2, sv_i y), (3, sv_i d)]) (st' := [sv_l ((365 + dy_lp y) - 1), sv_l 0, sv_l d]) rfl ?_
  refine sv_cs C (index := 9) (k := 3) (rest := []) (by decide +kernel) (ct_X11_in l g A ty σ hok4 (d) ⟨by omega, by omega⟩ (0) ⟨by omega, by omega⟩ ((365 + dy_lp y) - 1) ⟨by omega, by omega⟩) ⟨co_X11_in, in_X11, ⟨by decide, by decide, by decide +kernel⟩, Nat.le_of_ble_eq_true rfl, Nat.le_of_ble_eq_true rfl⟩ ml_X11_9 st_X11_in rfl rfl (Nat.le_of_ble_eq_true rfl) ⟨Nat.zero_le _, Nat.zero_le _⟩ (fun r8 σ9 hpo7 hok10 => ?_)
  obtain ⟨rfl, ⟨h11, rfl⟩ | ⟨h11, rfl⟩⟩ := hpo7
  · refine sv_same (st2 := [sv_i 1]) (lv2 := [(0, sv_r a), (1, sv_i p1), (2, sv_i y), (3, sv_i d)]) rfl rfl ?_
    refine sv_if_f C.1 C.2.1 (cnd := .eq) (off := 34) (tgt := 47) (by decide +kernel) (by decide) ⟨by omega, by omega⟩ (show ¬ (1 = 0) by omega) ?_
    refine sv_go C.1 C.2.1 [(.aload_n 0, 1)] (pc' := 17) (by decide +kernel) rfl (lv' := [(0, sv_r a), (1, sv_i p1), (2, sv_i y), (3, sv_i d)]) (st' := [sv_r a]) rfl ?_
    obtain ⟨v12, ev12, kv12⟩ := hI.ref (k := 31) k_a rfl
    refine sv_gf C (index := 121) (ci := 10) (k := 31) (r := (RX11, TX11, 47)) (v := sv_r v12) (by decide +kernel) (by rw [k_a]; rfl) rfl (by decide) fl_X11_121 (congrArg sv_a ev12) ?_
    refine sv_go C.1 C.2.1 [(.iload_n 3, 1)] (pc' := 21) (by decide +kernel) rfl (lv' := [(0, sv_r a), (1, sv_i p1), (2, sv_i y), (3, sv_i d)]) (st' := [sv_i d, sv_r v12]) rfl ?_
    refine sv_ia C (n := 366) (by decide +kernel) (by rw [kv12]; rfl) (by decide) (by omega) (by omega) ?_
    obtain ⟨v13, ev13, hv13⟩ := sv_rdn hI (k := (d : Int).toNat) kv12 rfl
    rw [ev13]
    refine sv_if C.1 C.2.1 (cnd := .lt) (off := 25) (tgt := 47) (by decide +kernel) (by decide) ⟨by omega, by omega⟩ (fun (h14 : v13 < 0) => ?_) (fun (h14 : ¬ (v13 < 0)) => ?_)
    · refine sv_go C.1 C.2.1 [(.iconst 0, 1)] (pc' := 48) (by decide +kernel) rfl (lv' := [(0, sv_r a), (1, sv_i p1), (2, sv_i y), (3, sv_i d)]) (st' := [sv_i 0]) rfl ?_
      exact sv_zret C hr (by omega) (by decide +kernel) hok10 (⟨rfl, ⟨_, rfl, ⟨by omega, by omega⟩⟩⟩)
    · refine sv_go C.1 C.2.1 [(.aload_n 0, 1)] (pc' := 26) (by decide +kernel) rfl (lv' := [(0, sv_r a), (1, sv_i p1), (2, sv_i y), (3, sv_i d)]) (st' := [sv_r a]) rfl ?_
      obtain ⟨v15, ev15, kv15⟩ := hI.ref (k := 12) k_a rfl
      refine sv_gf C (index := 84) (ci := 10) (k := 12) (r := (RX11, TX11, 47)) (v := sv_r v15) (by decide +kernel) (by rw [k_a]; rfl) rfl (by decide) fl_X11_84 (congrArg sv_a ev15) ?_
      refine sv_go C.1 C.2.1 [(.iload_n 1, 1), (.aload_n 0, 1)] (pc' := 31) (by decide +kernel) rfl (lv' := [(0, sv_r a), (1, sv_i p1), (2, sv_i y), (3, sv_i d)]) (st' := [sv_r a, sv_i p1, sv_r v15]) rfl ?_
      refine sv_gf C (index := 121) (ci := 10) (k := 31) (r := (RX11, TX11, 47)) (v := sv_r v12) (by decide +kernel) (by rw [k_a]; rfl) rfl (by decide) fl_X11_121 (congrArg sv_a ev12) ?_
      refine sv_go C.1 C.2.1 [(.iload_n 3, 1)] (pc' := 35) (by decide +kernel) rfl (lv' := [(0, sv_r a), (1, sv_i p1), (2, sv_i y), (3, sv_i d)]) (st' := [sv_i d, sv_r v12, sv_i p1, sv_r v15]) rfl ?_
      refine sv_ia C (n := 366) (by decide +kernel) (by rw [kv12]; rfl) (by decide) (by omega) (by omega) ?_
      rw [ev13]
      refine sv_cs C (index := 166) (k := 2) (rest := [sv_r v15]) (by decide +kernel) (sf_X11_at l g A ty σ hok10 hTA hI (p1) ⟨by omega, by omega⟩ (v13) ⟨by omega, by omega⟩) ⟨co_X11_at, in_X11, ⟨by decide, by decide, by decide +kernel⟩, Nat.le_of_ble_eq_true rfl, Nat.le_of_ble_eq_true rfl⟩ ml_X11_166 st_X11_at rfl rfl (Nat.le_of_ble_eq_true rfl) ⟨Nat.zero_le _, Nat.zero_le _⟩ (fun r17 σ18 hpo16 hok19 => ?_)
      obtain ⟨rfl, ⟨vu20, rfl, hvu20⟩⟩ := hpo16
      refine sv_same (st2 := [sv_i vu20, sv_r v15]) (lv2 := [(0, sv_r a), (1, sv_i p1), (2, sv_i y), (3, sv_i d)]) rfl rfl ?_
      refine sv_za C (n := 300) (by decide +kernel) (by rw [kv15]; rfl) (by decide) (by omega) (by omega) ?_
      obtain ⟨v21, ev21, hv21⟩ := sv_rdez hok19 (a := v15) (k := (vu20 : Int).toNat) (n := 300) (by rw [kv15]; rfl) (by omega)
      rw [ev21]
      refine sv_if C.1 C.2.1 (cnd := .eq) (off := 7) (tgt := 47) (by decide +kernel) (by decide) ⟨by omega, by omega⟩ (fun (h22 : v21 = 0) => ?_) (fun (h22 : ¬ (v21 = 0)) => ?_)
      · refine sv_go C.1 C.2.1 [(.iconst 0, 1)] (pc' := 48) (by decide +kernel) rfl (lv' := [(0, sv_r a), (1, sv_i p1), (2, sv_i y), (3, sv_i d)]) (st' := [sv_i 0]) rfl ?_
        exact sv_zret C hr (by omega) (by decide +kernel) hok19 (⟨rfl, ⟨_, rfl, ⟨by omega, by omega⟩⟩⟩)
      · refine sv_go C.1 C.2.1 [(.iconst 1, 1)] (pc' := 44) (by decide +kernel) rfl (lv' := [(0, sv_r a), (1, sv_i p1), (2, sv_i y), (3, sv_i d)]) (st' := [sv_i 1]) rfl ?_
        refine sv_goto C.1 C.2.1 (off := 4) (tgt := 48) (by decide +kernel) (by decide) ?_
        exact sv_zret C hr (by omega) (by decide +kernel) hok19 (⟨rfl, ⟨_, rfl, ⟨by omega, by omega⟩⟩⟩)
  · refine sv_same (st2 := [sv_i 0]) (lv2 := [(0, sv_r a), (1, sv_i p1), (2, sv_i y), (3, sv_i d)]) rfl rfl ?_
    refine sv_if_t C.1 C.2.1 (cnd := .eq) (off := 34) (tgt := 47) (by decide +kernel) (by decide) ⟨by omega, by omega⟩ (show 0 = 0 by omega) ?_
    refine sv_go C.1 C.2.1 [(.iconst 0, 1)] (pc' := 48) (by decide +kernel) rfl (lv' := [(0, sv_r a), (1, sv_i p1), (2, sv_i y), (3, sv_i d)]) (st' := [sv_i 0]) rfl ?_
    exact sv_zret C hr (by omega) (by decide +kernel) hok10 (⟨rfl, ⟨_, rfl, ⟨by omega, by omega⟩⟩⟩)

theorem ml_X11_304 : Cond.methodLink RX11 304 yX11_isVigil ∈ lw_good := sv_mem 1390 (by decide +kernel) rfl
theorem co_X11_isVigil : Cond.code yX11_isVigil cX11_isVigil 4 (some .boolean) ∈ lw_good := sv_mem 1393 (by decide +kernel) rfl
theorem im_X11_isVigil : Cond.instanceMethod yX11_isVigil ∈ lw_good := sv_mem 1392 (by decide +kernel) rfl
theorem se_X11_isVigil : Cond.selects RX11 yX11_isVigil yX11_isVigil ∈ lw_good := sv_mem 63 (by decide +kernel) rfl
set_option maxHeartbeats 4000000 in
set_option maxRecDepth 100000 in
theorem sf_X11_fast (l : Launch) (g : sv_G) (A : Nat → Prop) (ty : Nat → Nat) (σ : Nat → Nat → Int) (hok : sv_ok ty σ) (hTA : ∀ q, ty q ≠ 0 → A q) (hI : sv_inv sp_1 ty σ) (a : Nat) (k_a : ty a = 10) (ar1 : Int) (h_ar1 : (-2147483648) ≤ ar1 ∧ ar1 ≤ 2147483647) (ar2 : Int) (h_ar2 : (-2147483648) ≤ ar2 ∧ ar2 ≤ 2147483647) (ar3 : Int) (h_ar3 : (-2147483648) ≤ ar3 ∧ ar3 ≤ 2147483647) : sv_M l yX11_fast cX11_fast 6 (some .int) { frames := 6, cells := 0, slots := 0, locals := 138 } g A ty σ [sv_r a, sv_i ar1, sv_i ar2, sv_i ar3] (fun r σ' => (∃ rv : Int, r = [sv_i rv] ∧ ((-2) ≤ rv ∧ rv ≤ 1)) ∧ sv_inv sp_1 ty σ' ∧ sv_ofx [] [88, 89, 90, 91] ty σ σ') := by
  refine sv_enter (by decide) (Nat.le_of_ble_eq_true rfl) ?_
  intro p e s m args below meth c C hr
  have C : sv_C g A RX11 cX11_fast 6 p s m args meth c := C
  have hr : meth.sig.returnType = (some .int) := hr
  have hF : sv_ofx [] [88, 89, 90, 91] ty σ σ := sv_ofx.rf
  refine sv_same (st2 := []) (lv2 := [(0, sv_r a), (1, sv_i ar1), (2, sv_i ar2), (3, sv_i ar3)]) rfl rfl ?_
  refine sv_go C.1 C.2.1 [(.aload_n 0, 1), (.iload_n 1, 1), (.iload_n 2, 1), (.iload_n 3, 1)] (pc' := 4) (by decide +kernel) rfl (lv' := [(0, sv_r a), (1, sv_i ar1), (2, sv_i ar2), (3, sv_i ar3)]) (st' := [sv_i ar3, sv_i ar2, sv_i ar1, sv_r a]) rfl ?_
  refine sv_cv C (index := 297) (k := 3) (rest := []) (ci := 10) (r := (RX11, TX11, 47)) (by decide +kernel) (sf_X11_isPlaced l g A ty σ hok hTA hI a k_a (ar1) ⟨by omega, by omega⟩ (ar2) ⟨by omega, by omega⟩ (ar3) ⟨by omega, by omega⟩) ⟨co_X11_isPlaced, in_X11, ⟨by decide, by decide, by decide +kernel⟩, Nat.le_of_ble_eq_true rfl, Nat.le_of_ble_eq_true rfl⟩ ml_X11_297 im_X11_isPlaced se_X11_isPlaced (by rw [k_a]; rfl) rfl rfl rfl (Nat.le_of_ble_eq_true rfl) ⟨Nat.zero_le _, Nat.zero_le _⟩ (fun r2 σ3 hpo1 hok4 => ?_)
  obtain ⟨rfl, ⟨vu5, rfl, hvu5, ivu5_0⟩⟩ := hpo1
  refine sv_same (st2 := [sv_i vu5]) (lv2 := [(0, sv_r a), (1, sv_i ar1), (2, sv_i ar2), (3, sv_i ar3)]) rfl rfl ?_
  refine sv_if C.1 C.2.1 (cnd := .ne) (off := 6) (tgt := 13) (by decide +kernel) (by decide) ⟨by omega, by omega⟩ (fun (h6 : vu5 ≠ 0) => ?_) (fun (h6 : ¬ (vu5 ≠ 0)) => ?_)
  · have hp7 := ivu5_0 (by omega) (by omega)
    refine sv_go C.1 C.2.1 [(.aload_n 0, 1), (.iload_n 1, 1), (.iload_n 2, 1)] (pc' := 16) (by decide +kernel) rfl (lv' := [(0, sv_r a), (1, sv_i ar1), (2, sv_i ar2), (3, sv_i ar3)]) (st' := [sv_i ar2, sv_i ar1, sv_r a]) rfl ?_
    refine sv_cv C (index := 301) (k := 2) (rest := []) (ci := 10) (r := (RX11, TX11, 47)) (by decide +kernel) (sf_X11_lead l g A ty σ hok4 hTA hI a k_a (ar1) ⟨by omega, by omega⟩ (ar2) ⟨by omega, by omega⟩) ⟨co_X11_lead, in_X11, ⟨by decide, by decide, by decide +kernel⟩, Nat.le_of_ble_eq_true rfl, Nat.le_of_ble_eq_true rfl⟩ ml_X11_301 im_X11_lead se_X11_lead (by rw [k_a]; rfl) rfl rfl rfl (Nat.le_of_ble_eq_true rfl) ⟨Nat.zero_le _, Nat.zero_le _⟩ (fun r9 σ10 hpo8 hok11 => ?_)
    obtain ⟨rfl, hIu12, hFu12⟩ := hpo8
    have hGu12 := hF.tr hFu12 (by decide) (by decide)
    refine sv_same (st2 := []) (lv2 := [(0, sv_r a), (1, sv_i ar1), (2, sv_i ar2), (3, sv_i ar3)]) rfl rfl ?_
    refine sv_go C.1 C.2.1 [(.iload_n 2, 1), (.iload_n 3, 1)] (pc' := 21) (by decide +kernel) rfl (lv' := [(0, sv_r a), (1, sv_i ar1), (2, sv_i ar2), (3, sv_i ar3)]) (st' := [sv_i ar3, sv_i ar2]) rfl ?_
    refine sv_cs C (index := 31) (k := 2) (rest := []) (by decide +kernel) (ct_X11_weekday l g A ty σ10 hok11 (ar2) ⟨by omega, by omega⟩ (ar3) ⟨by omega, by omega⟩) ⟨co_X11_weekday, in_X11, ⟨by decide, by decide, by decide +kernel⟩, Nat.le_of_ble_eq_true rfl, Nat.le_of_ble_eq_true rfl⟩ ml_X11_31 st_X11_weekday rfl rfl (Nat.le_of_ble_eq_true rfl) ⟨Nat.zero_le _, Nat.zero_le _⟩ (fun r14 σ15 hpo13 hok16 => ?_)
    obtain ⟨rfl, rfl⟩ := hpo13
    have hn18 := dy_wd_in ar2 ar3
    refine sv_same (st2 := [sv_i (dy_wd ar2 ar3)]) (lv2 := [(0, sv_r a), (1, sv_i ar1), (2, sv_i ar2), (3, sv_i ar3)]) rfl rfl ?_
    refine sv_if C.1 C.2.1 (cnd := .ne) (off := 5) (tgt := 29) (by decide +kernel) (by decide) ⟨by omega, by omega⟩ (fun (h19 : (dy_wd ar2 ar3) ≠ 0) => ?_) (fun (h19 : ¬ ((dy_wd ar2 ar3) ≠ 0)) => ?_)
    · refine sv_go C.1 C.2.1 [(.iload_n 2, 1)] (pc' := 30) (by decide +kernel) rfl (lv' := [(0, sv_r a), (1, sv_i ar1), (2, sv_i ar2), (3, sv_i ar3)]) (st' := [sv_i ar2]) rfl ?_
      refine sv_cs C (index := 34) (k := 1) (rest := []) (by decide +kernel) (ct_X11_easterOf l g A ty σ10 hok16 (ar2) ⟨by omega, by omega⟩) ⟨co_X11_easterOf, in_X11, ⟨by decide, by decide, by decide +kernel⟩, Nat.le_of_ble_eq_true rfl, Nat.le_of_ble_eq_true rfl⟩ ml_X11_34 st_X11_easterOf rfl rfl (Nat.le_of_ble_eq_true rfl) ⟨Nat.zero_le _, Nat.zero_le _⟩ (fun r21 σ22 hpo20 hok23 => ?_)
      obtain ⟨rfl, rfl⟩ := hpo20
      have hn25 := dy_ea_in ar2
      refine sv_same (st2 := [sv_i (dy_ea ar2)]) (lv2 := [(0, sv_r a), (1, sv_i ar1), (2, sv_i ar2), (3, sv_i ar3)]) rfl rfl ?_
      refine sv_go C.1 C.2.1 [(.istore 4, 2), (.iload_n 3, 1), (.iload 4, 2)] (pc' := 38) (by decide +kernel) rfl (lv' := [(0, sv_r a), (1, sv_i ar1), (2, sv_i ar2), (3, sv_i ar3), (4, sv_i (dy_ea ar2))]) (st' := [sv_i (dy_ea ar2), sv_i ar3]) rfl ?_
      have J28 : ∀ (Jg27_s0 : Int), (0 ≤ Jg27_s0 ∧ Jg27_s0 ≤ 1) → sv_E p l e { frames := 6, cells := 0, slots := 0, locals := 138 } s m args below meth c 6 g A ty (fun r σ' => (∃ rv : Int, r = [sv_i rv] ∧ ((-2) ≤ rv ∧ rv ≤ 1)) ∧ sv_inv sp_1 ty σ' ∧ sv_ofx [] [88, 89, 90, 91] ty σ σ') σ10 71 [(0, sv_r a), (1, sv_i ar1), (2, sv_i ar2), (3, sv_i ar3)] [sv_i Jg27_s0] := by
        intro Jg27_s0 hJg27_s0
        refine sv_go C.1 C.2.1 [(.istore 5, 2), (.iload 5, 2)] (pc' := 75) (by decide +kernel) rfl (lv' := [(0, sv_r a), (1, sv_i ar1), (2, sv_i ar2), (3, sv_i ar3), (5, sv_i Jg27_s0)]) (st' := [sv_i Jg27_s0]) rfl ?_
        refine sv_if C.1 C.2.1 (cnd := .ne) (off := 25) (tgt := 100) (by decide +kernel) (by decide) ⟨by omega, by omega⟩ (fun (h29 : Jg27_s0 ≠ 0) => ?_) (fun (h29 : ¬ (Jg27_s0 ≠ 0)) => ?_)
        · refine sv_go C.1 C.2.1 [(.iconst 1, 1)] (pc' := 101) (by decide +kernel) rfl (lv' := [(0, sv_r a), (1, sv_i ar1), (2, sv_i ar2), (3, sv_i ar3), (5, sv_i Jg27_s0)]) (st' := [sv_i 1]) rfl ?_
          refine sv_goto C.1 C.2.1 (off := 4) (tgt := 105) (by decide +kernel) (by decide) ?_
          exact sv_iret C hr (by decide +kernel) hok23 (⟨⟨_, rfl, ⟨by omega, by omega⟩⟩, hIu12, hGu12⟩)
        · refine sv_go C.1 C.2.1 [(.iload_n 2, 1), (.iload_n 3, 1)] (pc' := 80) (by decide +kernel) rfl (lv' := [(0, sv_r a), (1, sv_i ar1), (2, sv_i ar2), (3, sv_i ar3), (5, sv_i Jg27_s0)]) (st' := [sv_i ar3, sv_i ar2]) rfl ?_
          refine sv_cs C (index := 31) (k := 2) (rest := []) (by decide +kernel) (ct_X11_weekday l g A ty σ10 hok23 (ar2) ⟨by omega, by omega⟩ (ar3) ⟨by omega, by omega⟩) ⟨co_X11_weekday, in_X11, ⟨by decide, by decide, by decide +kernel⟩, Nat.le_of_ble_eq_true rfl, Nat.le_of_ble_eq_true rfl⟩ ml_X11_31 st_X11_weekday rfl rfl (Nat.le_of_ble_eq_true rfl) ⟨Nat.zero_le _, Nat.zero_le _⟩ (fun r31 σ32 hpo30 hok33 => ?_)
          obtain ⟨rfl, rfl⟩ := hpo30
          have hn35 := dy_wd_in ar2 ar3
          refine sv_same (st2 := [sv_i (dy_wd ar2 ar3)]) (lv2 := [(0, sv_r a), (1, sv_i ar1), (2, sv_i ar2), (3, sv_i ar3), (5, sv_i Jg27_s0)]) rfl rfl ?_
          refine sv_go C.1 C.2.1 [(.bipush 6, 2)] (pc' := 85) (by decide +kernel) rfl (lv' := [(0, sv_r a), (1, sv_i ar1), (2, sv_i ar2), (3, sv_i ar3), (5, sv_i Jg27_s0)]) (st' := [sv_i 6, sv_i (dy_wd ar2 ar3)]) rfl ?_
          refine sv_icmp C.1 C.2.1 (cnd := .ne) (off := 19) (tgt := 104) (by decide +kernel) (by decide) ⟨by omega, by omega⟩ ⟨by omega, by omega⟩ (fun (h36 : (dy_wd ar2 ar3) ≠ 6) => ?_) (fun (h36 : ¬ ((dy_wd ar2 ar3) ≠ 6)) => ?_)
          · refine sv_go C.1 C.2.1 [(.iconst 0, 1)] (pc' := 105) (by decide +kernel) rfl (lv' := [(0, sv_r a), (1, sv_i ar1), (2, sv_i ar2), (3, sv_i ar3), (5, sv_i Jg27_s0)]) (st' := [sv_i 0]) rfl ?_
            exact sv_iret C hr (by decide +kernel) hok33 (⟨⟨_, rfl, ⟨by omega, by omega⟩⟩, hIu12, hGu12⟩)
          · refine sv_go C.1 C.2.1 [(.aload_n 0, 1), (.iload_n 1, 1), (.iload_n 2, 1), (.iload_n 3, 1), (.iconst 2, 1), (.iadd, 1)] (pc' := 94) (by decide +kernel) rfl (lv' := [(0, sv_r a), (1, sv_i ar1), (2, sv_i ar2), (3, sv_i ar3), (5, sv_i Jg27_s0)]) (st' := [sv_i (ar3 + 2), sv_i ar2, sv_i ar1, sv_r a]) rfl ?_
            refine sv_cv C (index := 304) (k := 3) (rest := []) (ci := 10) (r := (RX11, TX11, 47)) (by decide +kernel) (sf_X11_isVigil l g A ty σ10 hok33 hTA hIu12 a k_a (ar1) ⟨by omega, by omega⟩ (ar2) ⟨by omega, by omega⟩ (ar3 + 2) ⟨by omega, by omega⟩) ⟨co_X11_isVigil, in_X11, ⟨by decide, by decide, by decide +kernel⟩, Nat.le_of_ble_eq_true rfl, Nat.le_of_ble_eq_true rfl⟩ ml_X11_304 im_X11_isVigil se_X11_isVigil (by rw [k_a]; rfl) rfl rfl rfl (Nat.le_of_ble_eq_true rfl) ⟨Nat.zero_le _, Nat.zero_le _⟩ (fun r38 σ39 hpo37 hok40 => ?_)
            obtain ⟨rfl, ⟨vu41, rfl, hvu41⟩⟩ := hpo37
            refine sv_same (st2 := [sv_i vu41]) (lv2 := [(0, sv_r a), (1, sv_i ar1), (2, sv_i ar2), (3, sv_i ar3), (5, sv_i Jg27_s0)]) rfl rfl ?_
            refine sv_if C.1 C.2.1 (cnd := .eq) (off := 7) (tgt := 104) (by decide +kernel) (by decide) ⟨by omega, by omega⟩ (fun (h42 : vu41 = 0) => ?_) (fun (h42 : ¬ (vu41 = 0)) => ?_)
            · refine sv_go C.1 C.2.1 [(.iconst 0, 1)] (pc' := 105) (by decide +kernel) rfl (lv' := [(0, sv_r a), (1, sv_i ar1), (2, sv_i ar2), (3, sv_i ar3), (5, sv_i Jg27_s0)]) (st' := [sv_i 0]) rfl ?_
              exact sv_iret C hr (by decide +kernel) hok40 (⟨⟨_, rfl, ⟨by omega, by omega⟩⟩, hIu12, hGu12⟩)
            · refine sv_go C.1 C.2.1 [(.iconst 1, 1)] (pc' := 101) (by decide +kernel) rfl (lv' := [(0, sv_r a), (1, sv_i ar1), (2, sv_i ar2), (3, sv_i ar3), (5, sv_i Jg27_s0)]) (st' := [sv_i 1]) rfl ?_
              refine sv_goto C.1 C.2.1 (off := 4) (tgt := 105) (by decide +kernel) (by decide) ?_
              exact sv_iret C hr (by decide +kernel) hok40 (⟨⟨_, rfl, ⟨by omega, by omega⟩⟩, hIu12, hGu12⟩)
      refine sv_icmp C.1 C.2.1 (cnd := .ge) (off := 16) (tgt := 54) (by decide +kernel) (by decide) ⟨by omega, by omega⟩ ⟨by omega, by omega⟩ (fun (h26 : (dy_ea ar2) ≤ ar3) => ?_) (fun (h26 : ¬ ((dy_ea ar2) ≤ ar3)) => ?_)
      · refine sv_go C.1 C.2.1 [(.aload_n 0, 1), (.iload_n 1, 1), (.iload_n 2, 1), (.iload_n 3, 1), (.iconst 1, 1), (.iadd, 1)] (pc' := 60) (by decide +kernel) rfl (lv' := [(0, sv_r a), (1, sv_i ar1), (2, sv_i ar2), (3, sv_i ar3), (4, sv_i (dy_ea ar2))]) (st' := [sv_i (ar3 + 1), sv_i ar2, sv_i ar1, sv_r a]) rfl ?_
        refine sv_cv C (index := 304) (k := 3) (rest := []) (ci := 10) (r := (RX11, TX11, 47)) (by decide +kernel) (sf_X11_isVigil l g A ty σ10 hok23 hTA hIu12 a k_a (ar1) ⟨by omega, by omega⟩ (ar2) ⟨by omega, by omega⟩ (ar3 + 1) ⟨by omega, by omega⟩) ⟨co_X11_isVigil, in_X11, ⟨by decide, by decide, by decide +kernel⟩, Nat.le_of_ble_eq_true rfl, Nat.le_of_ble_eq_true rfl⟩ ml_X11_304 im_X11_isVigil se_X11_isVigil (by rw [k_a]; rfl) rfl rfl rfl (Nat.le_of_ble_eq_true rfl) ⟨Nat.zero_le _, Nat.zero_le _⟩ (fun r44 σ45 hpo43 hok46 => ?_)
        obtain ⟨rfl, ⟨vu47, rfl, hvu47⟩⟩ := hpo43
        refine sv_same (st2 := [sv_i vu47]) (lv2 := [(0, sv_r a), (1, sv_i ar1), (2, sv_i ar2), (3, sv_i ar3), (4, sv_i (dy_ea ar2))]) rfl rfl ?_
        refine sv_if C.1 C.2.1 (cnd := .eq) (off := 7) (tgt := 70) (by decide +kernel) (by decide) ⟨by omega, by omega⟩ (fun (h48 : vu47 = 0) => ?_) (fun (h48 : ¬ (vu47 = 0)) => ?_)
        · refine sv_go C.1 C.2.1 [(.iconst 0, 1)] (pc' := 71) (by decide +kernel) rfl (lv' := [(0, sv_r a), (1, sv_i ar1), (2, sv_i ar2), (3, sv_i ar3), (4, sv_i (dy_ea ar2))]) (st' := [sv_i 0]) rfl ?_
          refine sv_pick [0, 1, 2, 3] (lv2 := [(0, sv_r a), (1, sv_i ar1), (2, sv_i ar2), (3, sv_i ar3)]) rfl ?_
          exact J28 0 ⟨by omega, by omega⟩
        · refine sv_go C.1 C.2.1 [(.iconst 1, 1)] (pc' := 67) (by decide +kernel) rfl (lv' := [(0, sv_r a), (1, sv_i ar1), (2, sv_i ar2), (3, sv_i ar3), (4, sv_i (dy_ea ar2))]) (st' := [sv_i 1]) rfl ?_
          refine sv_goto C.1 C.2.1 (off := 4) (tgt := 71) (by decide +kernel) (by decide) ?_
          refine sv_pick [0, 1, 2, 3] (lv2 := [(0, sv_r a), (1, sv_i ar1), (2, sv_i ar2), (3, sv_i ar3)]) rfl ?_
          exact J28 1 ⟨by omega, by omega⟩
      · refine sv_go C.1 C.2.1 [(.iload_n 3, 1), (.iload 4, 2), (.aload_n 0, 1)] (pc' := 45) (by decide +kernel) rfl (lv' := [(0, sv_r a), (1, sv_i ar1), (2, sv_i ar2), (3, sv_i ar3), (4, sv_i (dy_ea ar2))]) (st' := [sv_r a, sv_i (dy_ea ar2), sv_i ar3]) rfl ?_
        obtain ⟨v49, ev49, kv49⟩ := hIu12.ref (k := 3) k_a rfl
        refine sv_gf C (index := 57) (ci := 10) (k := 3) (r := (RX11, TX11, 47)) (v := sv_r v49) (by decide +kernel) (by rw [k_a]; rfl) rfl (by decide) fl_X11_57 (congrArg sv_a ev49) ?_
        refine sv_go C.1 C.2.1 [(.iload_n 1, 1)] (pc' := 49) (by decide +kernel) rfl (lv' := [(0, sv_r a), (1, sv_i ar1), (2, sv_i ar2), (3, sv_i ar3), (4, sv_i (dy_ea ar2))]) (st' := [sv_i ar1, sv_r v49, sv_i (dy_ea ar2), sv_i ar3]) rfl ?_
        refine sv_ia C (n := 5) (by decide +kernel) (by rw [kv49]; rfl) (by decide) (by omega) (by omega) ?_
        obtain ⟨v50, ev50, hv50⟩ := sv_rde hok23 (a := v49) (k := (ar1 : Int).toNat) (n := 5) (by rw [kv49]; rfl) (by omega)
        rw [ev50]
        refine sv_go C.1 C.2.1 [(.isub, 1)] (pc' := 51) (by decide +kernel) rfl (lv' := [(0, sv_r a), (1, sv_i ar1), (2, sv_i ar2), (3, sv_i ar3), (4, sv_i (dy_ea ar2))]) (st' := [sv_i ((dy_ea ar2) - v50), sv_i ar3]) rfl ?_
        obtain ⟨w51, hw51, ew51⟩ := sv_wr ((dy_ea ar2) - v50)
        refine sv_sameD (st2 := [sv_i w51, sv_i ar3]) (lv2 := [(0, sv_r a), (1, sv_i ar1), (2, sv_i ar2), (3, sv_i ar3), (4, sv_i (dy_ea ar2))]) (by simp only [List.map_cons, List.map_nil, sv_den_i, ew51]) rfl ?_
        refine sv_icmp C.1 C.2.1 (cnd := .ge) (off := 15) (tgt := 66) (by decide +kernel) (by decide) ⟨by omega, by omega⟩ ⟨by omega, by omega⟩ (fun (h52 : w51 ≤ ar3) => ?_) (fun (h52 : ¬ (w51 ≤ ar3)) => ?_)
        · refine sv_go C.1 C.2.1 [(.iconst 1, 1)] (pc' := 67) (by decide +kernel) rfl (lv' := [(0, sv_r a), (1, sv_i ar1), (2, sv_i ar2), (3, sv_i ar3), (4, sv_i (dy_ea ar2))]) (st' := [sv_i 1]) rfl ?_
          refine sv_goto C.1 C.2.1 (off := 4) (tgt := 71) (by decide +kernel) (by decide) ?_
          refine sv_pick [0, 1, 2, 3] (lv2 := [(0, sv_r a), (1, sv_i ar1), (2, sv_i ar2), (3, sv_i ar3)]) rfl ?_
          exact J28 1 ⟨by omega, by omega⟩
        · refine sv_go C.1 C.2.1 [(.aload_n 0, 1), (.iload_n 1, 1), (.iload_n 2, 1), (.iload_n 3, 1), (.iconst 1, 1), (.iadd, 1)] (pc' := 60) (by decide +kernel) rfl (lv' := [(0, sv_r a), (1, sv_i ar1), (2, sv_i ar2), (3, sv_i ar3), (4, sv_i (dy_ea ar2))]) (st' := [sv_i (ar3 + 1), sv_i ar2, sv_i ar1, sv_r a]) rfl ?_
          refine sv_cv C (index := 304) (k := 3) (rest := []) (ci := 10) (r := (RX11, TX11, 47)) (by decide +kernel) (sf_X11_isVigil l g A ty σ10 hok23 hTA hIu12 a k_a (ar1) ⟨by omega, by omega⟩ (ar2) ⟨by omega, by omega⟩ (ar3 + 1) ⟨by omega, by omega⟩) ⟨co_X11_isVigil, in_X11, ⟨by decide, by decide, by decide +kernel⟩, Nat.le_of_ble_eq_true rfl, Nat.le_of_ble_eq_true rfl⟩ ml_X11_304 im_X11_isVigil se_X11_isVigil (by rw [k_a]; rfl) rfl rfl rfl (Nat.le_of_ble_eq_true rfl) ⟨Nat.zero_le _, Nat.zero_le _⟩ (fun r54 σ55 hpo53 hok56 => ?_)
          obtain ⟨rfl, ⟨vu57, rfl, hvu57⟩⟩ := hpo53
          refine sv_same (st2 := [sv_i vu57]) (lv2 := [(0, sv_r a), (1, sv_i ar1), (2, sv_i ar2), (3, sv_i ar3), (4, sv_i (dy_ea ar2))]) rfl rfl ?_
          refine sv_if C.1 C.2.1 (cnd := .eq) (off := 7) (tgt := 70) (by decide +kernel) (by decide) ⟨by omega, by omega⟩ (fun (h58 : vu57 = 0) => ?_) (fun (h58 : ¬ (vu57 = 0)) => ?_)
          · refine sv_go C.1 C.2.1 [(.iconst 0, 1)] (pc' := 71) (by decide +kernel) rfl (lv' := [(0, sv_r a), (1, sv_i ar1), (2, sv_i ar2), (3, sv_i ar3), (4, sv_i (dy_ea ar2))]) (st' := [sv_i 0]) rfl ?_
            refine sv_pick [0, 1, 2, 3] (lv2 := [(0, sv_r a), (1, sv_i ar1), (2, sv_i ar2), (3, sv_i ar3)]) rfl ?_
            exact J28 0 ⟨by omega, by omega⟩
          · refine sv_go C.1 C.2.1 [(.iconst 1, 1)] (pc' := 67) (by decide +kernel) rfl (lv' := [(0, sv_r a), (1, sv_i ar1), (2, sv_i ar2), (3, sv_i ar3), (4, sv_i (dy_ea ar2))]) (st' := [sv_i 1]) rfl ?_
            refine sv_goto C.1 C.2.1 (off := 4) (tgt := 71) (by decide +kernel) (by decide) ?_
            refine sv_pick [0, 1, 2, 3] (lv2 := [(0, sv_r a), (1, sv_i ar1), (2, sv_i ar2), (3, sv_i ar3)]) rfl ?_
            exact J28 1 ⟨by omega, by omega⟩
    · refine sv_go C.1 C.2.1 [(.iconst 0, 1)] (pc' := 28) (by decide +kernel) rfl (lv' := [(0, sv_r a), (1, sv_i ar1), (2, sv_i ar2), (3, sv_i ar3)]) (st' := [sv_i 0]) rfl ?_
      exact sv_iret C hr (by decide +kernel) hok16 (⟨⟨_, rfl, ⟨by omega, by omega⟩⟩, hIu12, hGu12⟩)
  · refine sv_go C.1 C.2.1 [(.bipush (-2), 2)] (pc' := 12) (by decide +kernel) rfl (lv' := [(0, sv_r a), (1, sv_i ar1), (2, sv_i ar2), (3, sv_i ar3)]) (st' := [sv_i ((-2))]) rfl ?_
    exact sv_iret C hr (by decide +kernel) hok4 (⟨⟨_, rfl, ⟨by omega, by omega⟩⟩, hI, hF⟩)

set_option maxHeartbeats 4000000 in
set_option maxRecDepth 100000 in
theorem sf_X11_waxOf (l : Launch) (g : sv_G) (A : Nat → Prop) (ty : Nat → Nat) (σ : Nat → Nat → Int) (hok : sv_ok ty σ) (hTA : ∀ q, ty q ≠ 0 → A q) (hI : sv_inv sp_1 ty σ) (a : Nat) (k_a : ty a = 10) (p1 : Int) (h_p1 : 0 ≤ p1 ∧ p1 ≤ 3) (d : Int) (h_d : 0 ≤ d ∧ d ≤ 365) : sv_M l yX11_waxOf cX11_waxOf 4 (some .int) { frames := 1, cells := 0, slots := 0, locals := 21 } g A ty σ [sv_r a, sv_i p1, sv_i d] (fun r σ' => σ = σ' ∧ ∃ rv : Int, r = [sv_i rv] ∧ ((-2147483648) ≤ rv ∧ rv ≤ 2147483647)) := by
  refine sv_enter (by decide) (Nat.le_of_ble_eq_true rfl) ?_
  intro p e s m args below meth c C hr
  have C : sv_C g A RX11 cX11_waxOf 4 p s m args meth c := C
  have hr : meth.sig.returnType = (some .int) := hr
  have hF : sv_ofx [] [] ty σ σ := sv_ofx.rf
  refine sv_same (st2 := []) (lv2 := [(0, sv_r a), (1, sv_i p1), (2, sv_i d)]) rfl rfl ?_
  refine sv_go C.1 C.2.1 [(.aload_n 0, 1)] (pc' := 1) (by decide +kernel) rfl (lv' := [(0, sv_r a), (1, sv_i p1), (2, sv_i d)]) (st' := [sv_r a]) rfl ?_
  obtain ⟨v1, ev1, kv1⟩ := hI.ref (k := 31) k_a rfl
  refine sv_gf C (index := 121) (ci := 10) (k := 31) (r := (RX11, TX11, 47)) (v := sv_r v1) (by decide +kernel) (by rw [k_a]; rfl) rfl (by decide) fl_X11_121 (congrArg sv_a ev1) ?_
  refine sv_go C.1 C.2.1 [(.iload_n 2, 1)] (pc' := 5) (by decide +kernel) rfl (lv' := [(0, sv_r a), (1, sv_i p1), (2, sv_i d)]) (st' := [sv_i d, sv_r v1]) rfl ?_
  refine sv_ia C (n := 366) (by decide +kernel) (by rw [kv1]; rfl) (by decide) (by omega) (by omega) ?_
  obtain ⟨v2, ev2, hv2⟩ := sv_rdn hI (k := (d : Int).toNat) kv1 rfl
  rw [ev2]
  refine sv_go C.1 C.2.1 [(.istore_n 3, 1), (.iload_n 3, 1)] (pc' := 8) (by decide +kernel) rfl (lv' := [(0, sv_r a), (1, sv_i p1), (2, sv_i d), (3, sv_i v2)]) (st' := [sv_i v2]) rfl ?_
  refine sv_if C.1 C.2.1 (cnd := .lt) (off := 24) (tgt := 32) (by decide +kernel) (by decide) ⟨by omega, by omega⟩ (fun (h3 : v2 < 0) => ?_) (fun (h3 : ¬ (v2 < 0)) => ?_)
  · refine sv_go C.1 C.2.1 [(.iload_n 3, 1), (.bipush (-20), 2)] (pc' := 35) (by decide +kernel) rfl (lv' := [(0, sv_r a), (1, sv_i p1), (2, sv_i d), (3, sv_i v2)]) (st' := [sv_i ((-20)), sv_i v2]) rfl ?_
    refine sv_icmp C.1 C.2.1 (cnd := .gt) (off := 31) (tgt := 66) (by decide +kernel) (by decide) ⟨by omega, by omega⟩ ⟨by omega, by omega⟩ (fun (h4 : ((-20)) < v2) => ?_) (fun (h4 : ¬ (((-20)) < v2)) => ?_)
    · refine sv_go C.1 C.2.1 [(.iconst 0, 1)] (pc' := 67) (by decide +kernel) rfl (lv' := [(0, sv_r a), (1, sv_i p1), (2, sv_i d), (3, sv_i v2)]) (st' := [sv_i 0]) rfl ?_
      exact sv_iret C hr (by decide +kernel) hok (⟨rfl, ⟨_, rfl, ⟨by omega, by omega⟩⟩⟩)
    · refine sv_go C.1 C.2.1 [(.aload_n 0, 1)] (pc' := 39) (by decide +kernel) rfl (lv' := [(0, sv_r a), (1, sv_i p1), (2, sv_i d), (3, sv_i v2)]) (st' := [sv_r a]) rfl ?_
      obtain ⟨v5, ev5, kv5⟩ := hI.ref (k := 4) k_a rfl
      refine sv_gf C (index := 60) (ci := 10) (k := 4) (r := (RX11, TX11, 47)) (v := sv_r v5) (by decide +kernel) (by rw [k_a]; rfl) rfl (by decide) fl_X11_60 (congrArg sv_a ev5) ?_
      refine sv_go C.1 C.2.1 [(.bipush 9, 2), (.iload_n 1, 1), (.imul, 1), (.aload_n 0, 1)] (pc' := 47) (by decide +kernel) rfl (lv' := [(0, sv_r a), (1, sv_i p1), (2, sv_i d), (3, sv_i v2)]) (st' := [sv_r a, sv_i (9 * p1), sv_r v5]) rfl ?_
      obtain ⟨v6, ev6, kv6⟩ := hI.ref (k := 8) k_a rfl
      refine sv_gf C (index := 72) (ci := 10) (k := 8) (r := (RX11, TX11, 47)) (v := sv_r v6) (by decide +kernel) (by rw [k_a]; rfl) rfl (by decide) fl_X11_72 (congrArg sv_a ev6) ?_
      refine sv_go C.1 C.2.1 [(.iload_n 1, 1), (.bipush (-20), 2), (.iload_n 3, 1), (.isub, 1)] (pc' := 55) (by decide +kernel) rfl (lv' := [(0, sv_r a), (1, sv_i p1), (2, sv_i d), (3, sv_i v2)]) (st' := [sv_i (((-20)) - v2), sv_i p1, sv_r v6, sv_i (9 * p1), sv_r v5]) rfl ?_
      refine sv_cs C (index := 166) (k := 2) (rest := [sv_r v6, sv_i (9 * p1), sv_r v5]) (by decide +kernel) (sf_X11_at l g A ty σ hok hTA hI (p1) ⟨by omega, by omega⟩ (((-20)) - v2) ⟨by omega, by omega⟩) ⟨co_X11_at, in_X11, ⟨by decide, by decide, by decide +kernel⟩, Nat.le_of_ble_eq_true rfl, Nat.le_of_ble_eq_true rfl⟩ ml_X11_166 st_X11_at rfl rfl (Nat.le_of_ble_eq_true rfl) ⟨Nat.zero_le _, Nat.zero_le _⟩ (fun r8 σ9 hpo7 hok10 => ?_)
      obtain ⟨rfl, ⟨vu11, rfl, hvu11⟩⟩ := hpo7
      refine sv_same (st2 := [sv_i vu11, sv_r v6, sv_i (9 * p1), sv_r v5]) (lv2 := [(0, sv_r a), (1, sv_i p1), (2, sv_i d), (3, sv_i v2)]) rfl rfl ?_
      refine sv_ia C (n := 300) (by decide +kernel) (by rw [kv6]; rfl) (by decide) (by omega) (by omega) ?_
      obtain ⟨v12, ev12, hv12⟩ := sv_rdn hI (k := (vu11 : Int).toNat) kv6 rfl
      rw [ev12]
      refine sv_go C.1 C.2.1 [(.iadd, 1)] (pc' := 60) (by decide +kernel) rfl (lv' := [(0, sv_r a), (1, sv_i p1), (2, sv_i d), (3, sv_i v2)]) (st' := [sv_i ((9 * p1) + v12), sv_r v5]) rfl ?_
      refine sv_ia C (n := 45) (by decide +kernel) (by rw [kv5]; rfl) (by decide) (by omega) (by omega) ?_
      obtain ⟨v13, ev13, hv13⟩ := sv_rde hok10 (a := v5) (k := ((9 * p1) + v12 : Int).toNat) (n := 45) (by rw [kv5]; rfl) (by omega)
      rw [ev13]
      refine sv_go C.1 C.2.1 [(.iconst 4, 1)] (pc' := 62) (by decide +kernel) rfl (lv' := [(0, sv_r a), (1, sv_i p1), (2, sv_i d), (3, sv_i v2)]) (st' := [sv_i 4, sv_i v13]) rfl ?_
      refine sv_idiv C.1 C.2.1 (by decide +kernel) ⟨by omega, by omega⟩ (by omega) (by omega) ?_
      obtain ⟨w14, ew14, hw14⟩ := sv_tdivr v13 4 (by decide) ⟨by omega, by omega⟩
      rw [ew14]
      refine sv_goto C.1 C.2.1 (off := 4) (tgt := 67) (by decide +kernel) (by decide) ?_
      exact sv_iret C hr (by decide +kernel) hok10 (⟨rfl, ⟨_, rfl, ⟨by omega, by omega⟩⟩⟩)
  · refine sv_go C.1 C.2.1 [(.aload_n 0, 1)] (pc' := 12) (by decide +kernel) rfl (lv' := [(0, sv_r a), (1, sv_i p1), (2, sv_i d), (3, sv_i v2)]) (st' := [sv_r a]) rfl ?_
    obtain ⟨v15, ev15, kv15⟩ := hI.ref (k := 4) k_a rfl
    refine sv_gf C (index := 60) (ci := 10) (k := 4) (r := (RX11, TX11, 47)) (v := sv_r v15) (by decide +kernel) (by rw [k_a]; rfl) rfl (by decide) fl_X11_60 (congrArg sv_a ev15) ?_
    refine sv_go C.1 C.2.1 [(.bipush 9, 2), (.iload_n 1, 1), (.imul, 1), (.aload_n 0, 1)] (pc' := 20) (by decide +kernel) rfl (lv' := [(0, sv_r a), (1, sv_i p1), (2, sv_i d), (3, sv_i v2)]) (st' := [sv_r a, sv_i (9 * p1), sv_r v15]) rfl ?_
    obtain ⟨v16, ev16, kv16⟩ := hI.ref (k := 8) k_a rfl
    refine sv_gf C (index := 72) (ci := 10) (k := 8) (r := (RX11, TX11, 47)) (v := sv_r v16) (by decide +kernel) (by rw [k_a]; rfl) rfl (by decide) fl_X11_72 (congrArg sv_a ev16) ?_
    refine sv_go C.1 C.2.1 [(.iload_n 1, 1), (.iload_n 3, 1)] (pc' := 25) (by decide +kernel) rfl (lv' := [(0, sv_r a), (1, sv_i p1), (2, sv_i d), (3, sv_i v2)]) (st' := [sv_i v2, sv_i p1, sv_r v16, sv_i (9 * p1), sv_r v15]) rfl ?_
    refine sv_cs C (index := 166) (k := 2) (rest := [sv_r v16, sv_i (9 * p1), sv_r v15]) (by decide +kernel) (sf_X11_at l g A ty σ hok hTA hI (p1) ⟨by omega, by omega⟩ (v2) ⟨by omega, by omega⟩) ⟨co_X11_at, in_X11, ⟨by decide, by decide, by decide +kernel⟩, Nat.le_of_ble_eq_true rfl, Nat.le_of_ble_eq_true rfl⟩ ml_X11_166 st_X11_at rfl rfl (Nat.le_of_ble_eq_true rfl) ⟨Nat.zero_le _, Nat.zero_le _⟩ (fun r18 σ19 hpo17 hok20 => ?_)
    obtain ⟨rfl, ⟨vu21, rfl, hvu21⟩⟩ := hpo17
    refine sv_same (st2 := [sv_i vu21, sv_r v16, sv_i (9 * p1), sv_r v15]) (lv2 := [(0, sv_r a), (1, sv_i p1), (2, sv_i d), (3, sv_i v2)]) rfl rfl ?_
    refine sv_ia C (n := 300) (by decide +kernel) (by rw [kv16]; rfl) (by decide) (by omega) (by omega) ?_
    obtain ⟨v22, ev22, hv22⟩ := sv_rdn hI (k := (vu21 : Int).toNat) kv16 rfl
    rw [ev22]
    refine sv_go C.1 C.2.1 [(.iadd, 1)] (pc' := 30) (by decide +kernel) rfl (lv' := [(0, sv_r a), (1, sv_i p1), (2, sv_i d), (3, sv_i v2)]) (st' := [sv_i ((9 * p1) + v22), sv_r v15]) rfl ?_
    refine sv_ia C (n := 45) (by decide +kernel) (by rw [kv15]; rfl) (by decide) (by omega) (by omega) ?_
    obtain ⟨v23, ev23, hv23⟩ := sv_rde hok20 (a := v15) (k := ((9 * p1) + v22 : Int).toNat) (n := 45) (by rw [kv15]; rfl) (by omega)
    rw [ev23]
    exact sv_iret C hr (by decide +kernel) hok20 (⟨rfl, ⟨_, rfl, ⟨by omega, by omega⟩⟩⟩)

theorem ml_X11_307 : Cond.methodLink RX11 307 yX11_waxOf ∈ lw_good := sv_mem 1398 (by decide +kernel) rfl
theorem co_X11_waxOf : Cond.code yX11_waxOf cX11_waxOf 4 (some .int) ∈ lw_good := sv_mem 1401 (by decide +kernel) rfl
theorem im_X11_waxOf : Cond.instanceMethod yX11_waxOf ∈ lw_good := sv_mem 1400 (by decide +kernel) rfl
theorem se_X11_waxOf : Cond.selects RX11 yX11_waxOf yX11_waxOf ∈ lw_good := sv_mem 64 (by decide +kernel) rfl
set_option maxHeartbeats 4000000 in
set_option maxRecDepth 100000 in
theorem sf_X11_wax (l : Launch) (g : sv_G) (A : Nat → Prop) (ty : Nat → Nat) (σ : Nat → Nat → Int) (hok : sv_ok ty σ) (hTA : ∀ q, ty q ≠ 0 → A q) (hI : sv_inv sp_1 ty σ) (a : Nat) (k_a : ty a = 10) (ar1 : Int) (h_ar1 : (-2147483648) ≤ ar1 ∧ ar1 ≤ 2147483647) (ar2 : Int) (h_ar2 : (-2147483648) ≤ ar2 ∧ ar2 ≤ 2147483647) (ar3 : Int) (h_ar3 : (-2147483648) ≤ ar3 ∧ ar3 ≤ 2147483647) (ar4 : Int) (h_ar4 : (-2147483648) ≤ ar4 ∧ ar4 ≤ 2147483647) : sv_M l yX11_wax cX11_wax 7 (some .int) { frames := 6, cells := 0, slots := 0, locals := 138 } g A ty σ [sv_r a, sv_i ar1, sv_i ar2, sv_i ar3, sv_i ar4] (fun r σ' => (∃ rv : Int, r = [sv_i rv] ∧ ((-2147483648) ≤ rv ∧ rv ≤ 2147483647)) ∧ sv_inv sp_1 ty σ' ∧ sv_ofx [] [88, 89, 90, 91] ty σ σ') := by
  refine sv_enter (by decide) (Nat.le_of_ble_eq_true rfl) ?_
  intro p e s m args below meth c C hr
  have C : sv_C g A RX11 cX11_wax 7 p s m args meth c := C
  have hr : meth.sig.returnType = (some .int) := hr
  have hF : sv_ofx [] [88, 89, 90, 91] ty σ σ := sv_ofx.rf
  refine sv_same (st2 := []) (lv2 := [(0, sv_r a), (1, sv_i ar1), (2, sv_i ar2), (3, sv_i ar3), (4, sv_i ar4)]) rfl rfl ?_
  refine sv_go C.1 C.2.1 [(.aload_n 0, 1), (.iload_n 1, 1), (.iload_n 2, 1), (.iload_n 3, 1)] (pc' := 4) (by decide +kernel) rfl (lv' := [(0, sv_r a), (1, sv_i ar1), (2, sv_i ar2), (3, sv_i ar3), (4, sv_i ar4)]) (st' := [sv_i ar3, sv_i ar2, sv_i ar1, sv_r a]) rfl ?_
  refine sv_cv C (index := 297) (k := 3) (rest := []) (ci := 10) (r := (RX11, TX11, 47)) (by decide +kernel) (sf_X11_isPlaced l g A ty σ hok hTA hI a k_a (ar1) ⟨by omega, by omega⟩ (ar2) ⟨by omega, by omega⟩ (ar3) ⟨by omega, by omega⟩) ⟨co_X11_isPlaced, in_X11, ⟨by decide, by decide, by decide +kernel⟩, Nat.le_of_ble_eq_true rfl, Nat.le_of_ble_eq_true rfl⟩ ml_X11_297 im_X11_isPlaced se_X11_isPlaced (by rw [k_a]; rfl) rfl rfl rfl (Nat.le_of_ble_eq_true rfl) ⟨Nat.zero_le _, Nat.zero_le _⟩ (fun r2 σ3 hpo1 hok4 => ?_)
  obtain ⟨rfl, ⟨vu5, rfl, hvu5, ivu5_0⟩⟩ := hpo1
  refine sv_same (st2 := [sv_i vu5]) (lv2 := [(0, sv_r a), (1, sv_i ar1), (2, sv_i ar2), (3, sv_i ar3), (4, sv_i ar4)]) rfl rfl ?_
  refine sv_if C.1 C.2.1 (cnd := .eq) (off := 18) (tgt := 25) (by decide +kernel) (by decide) ⟨by omega, by omega⟩ (fun (h6 : vu5 = 0) => ?_) (fun (h6 : ¬ (vu5 = 0)) => ?_)
  · refine sv_go C.1 C.2.1 [(.bipush (-2), 2)] (pc' := 27) (by decide +kernel) rfl (lv' := [(0, sv_r a), (1, sv_i ar1), (2, sv_i ar2), (3, sv_i ar3), (4, sv_i ar4)]) (st' := [sv_i ((-2))]) rfl ?_
    exact sv_iret C hr (by decide +kernel) hok4 (⟨⟨_, rfl, ⟨by omega, by omega⟩⟩, hI, hF⟩)
  · have hp7 := ivu5_0 (by omega) (by omega)
    refine sv_go C.1 C.2.1 [(.iload_n 2, 1), (.iload 4, 2)] (pc' := 13) (by decide +kernel) rfl (lv' := [(0, sv_r a), (1, sv_i ar1), (2, sv_i ar2), (3, sv_i ar3), (4, sv_i ar4)]) (st' := [sv_i ar4, sv_i ar2]) rfl ?_
    refine sv_cs C (index := 37) (k := 2) (rest := []) (by decide +kernel) (ct_X11_isDay l g A ty σ hok4 (ar2) ⟨by omega, by omega⟩ (ar4) ⟨by omega, by omega⟩) ⟨co_X11_isDay, in_X11, ⟨by decide, by decide, by decide +kernel⟩, Nat.le_of_ble_eq_true rfl, Nat.le_of_ble_eq_true rfl⟩ ml_X11_37 st_X11_isDay rfl rfl (Nat.le_of_ble_eq_true rfl) ⟨Nat.zero_le _, Nat.zero_le _⟩ (fun r9 σ10 hpo8 hok11 => ?_)
    obtain ⟨rfl, ⟨h12, rfl⟩ | ⟨h12, rfl⟩⟩ := hpo8
    · have hn13 := dy_lp_in ar2
      refine sv_same (st2 := [sv_i 1]) (lv2 := [(0, sv_r a), (1, sv_i ar1), (2, sv_i ar2), (3, sv_i ar3), (4, sv_i ar4)]) rfl rfl ?_
      refine sv_if_f C.1 C.2.1 (cnd := .eq) (off := 9) (tgt := 25) (by decide +kernel) (by decide) ⟨by omega, by omega⟩ (show ¬ (1 = 0) by omega) ?_
      refine sv_go C.1 C.2.1 [(.iload_n 3, 1), (.iload 4, 2)] (pc' := 22) (by decide +kernel) rfl (lv' := [(0, sv_r a), (1, sv_i ar1), (2, sv_i ar2), (3, sv_i ar3), (4, sv_i ar4)]) (st' := [sv_i ar4, sv_i ar3]) rfl ?_
      refine sv_icmp C.1 C.2.1 (cnd := .le) (off := 6) (tgt := 28) (by decide +kernel) (by decide) ⟨by omega, by omega⟩ ⟨by omega, by omega⟩ (fun (h14 : ar3 ≤ ar4) => ?_) (fun (h14 : ¬ (ar3 ≤ ar4)) => ?_)
      · refine sv_go C.1 C.2.1 [(.aload_n 0, 1), (.iload_n 1, 1), (.iload_n 2, 1)] (pc' := 31) (by decide +kernel) rfl (lv' := [(0, sv_r a), (1, sv_i ar1), (2, sv_i ar2), (3, sv_i ar3), (4, sv_i ar4)]) (st' := [sv_i ar2, sv_i ar1, sv_r a]) rfl ?_
        refine sv_cv C (index := 301) (k := 2) (rest := []) (ci := 10) (r := (RX11, TX11, 47)) (by decide +kernel) (sf_X11_lead l g A ty σ hok11 hTA hI a k_a (ar1) ⟨by omega, by omega⟩ (ar2) ⟨by omega, by omega⟩) ⟨co_X11_lead, in_X11, ⟨by decide, by decide, by decide +kernel⟩, Nat.le_of_ble_eq_true rfl, Nat.le_of_ble_eq_true rfl⟩ ml_X11_301 im_X11_lead se_X11_lead (by rw [k_a]; rfl) rfl rfl rfl (Nat.le_of_ble_eq_true rfl) ⟨Nat.zero_le _, Nat.zero_le _⟩ (fun r16 σ17 hpo15 hok18 => ?_)
        obtain ⟨rfl, hIu19, hFu19⟩ := hpo15
        have hGu19 := hF.tr hFu19 (by decide) (by decide)
        refine sv_same (st2 := []) (lv2 := [(0, sv_r a), (1, sv_i ar1), (2, sv_i ar2), (3, sv_i ar3), (4, sv_i ar4)]) rfl rfl ?_
        refine sv_go C.1 C.2.1 [(.iconst 0, 1), (.istore 5, 2), (.iload_n 3, 1), (.istore 6, 2)] (pc' := 40) (by decide +kernel) rfl (lv' := [(0, sv_r a), (1, sv_i ar1), (2, sv_i ar2), (3, sv_i ar3), (4, sv_i ar4), (5, sv_i 0), (6, sv_i ar3)]) (st' := []) rfl ?_
        have L21 : ∀ (n : Nat) (Xg20_l5 : Int) (Xg20_l6 : Int), ((-2147483648) ≤ Xg20_l5 ∧ Xg20_l5 ≤ 2147483647) → (0 ≤ Xg20_l6 ∧ Xg20_l6 ≤ 366) → (366 - Xg20_l6) < (n : Int) → sv_E p l e { frames := 6, cells := 0, slots := 0, locals := 138 } s m args below meth c 7 g A ty (fun r σ' => (∃ rv : Int, r = [sv_i rv] ∧ ((-2147483648) ≤ rv ∧ rv ≤ 2147483647)) ∧ sv_inv sp_1 ty σ' ∧ sv_ofx [] [88, 89, 90, 91] ty σ σ') σ17 40 [(0, sv_r a), (1, sv_i ar1), (4, sv_i ar4), (5, sv_i Xg20_l5), (6, sv_i Xg20_l6)] [] := by
          intro n
          induction n with
          | zero => intro Xg20_l5 Xg20_l6 hXg20_l5 hXg20_l6 hmu; exact absurd hmu (by omega)
          | succ n ih22 =>
            intro Xg20_l5 Xg20_l6 hXg20_l5 hXg20_l6 hmu
            refine sv_go C.1 C.2.1 [(.iload 6, 2), (.iload 4, 2)] (pc' := 44) (by decide +kernel) rfl (lv' := [(0, sv_r a), (1, sv_i ar1), (4, sv_i ar4), (5, sv_i Xg20_l5), (6, sv_i Xg20_l6)]) (st' := [sv_i ar4, sv_i Xg20_l6]) rfl ?_
            refine sv_icmp C.1 C.2.1 (cnd := .gt) (off := 21) (tgt := 65) (by decide +kernel) (by decide) ⟨by omega, by omega⟩ ⟨by omega, by omega⟩ (fun (h23 : ar4 < Xg20_l6) => ?_) (fun (h23 : ¬ (ar4 < Xg20_l6)) => ?_)
            · refine sv_go C.1 C.2.1 [(.iload 5, 2)] (pc' := 67) (by decide +kernel) rfl (lv' := [(0, sv_r a), (1, sv_i ar1), (4, sv_i ar4), (5, sv_i Xg20_l5), (6, sv_i Xg20_l6)]) (st' := [sv_i Xg20_l5]) rfl ?_
              exact sv_iret C hr (by decide +kernel) hok18 (⟨⟨_, rfl, ⟨by omega, by omega⟩⟩, hIu19, hGu19⟩)
            · refine sv_go C.1 C.2.1 [(.iload 5, 2), (.aload_n 0, 1), (.iload_n 1, 1), (.iload 6, 2)] (pc' := 53) (by decide +kernel) rfl (lv' := [(0, sv_r a), (1, sv_i ar1), (4, sv_i ar4), (5, sv_i Xg20_l5), (6, sv_i Xg20_l6)]) (st' := [sv_i Xg20_l6, sv_i ar1, sv_r a, sv_i Xg20_l5]) rfl ?_
              refine sv_cv C (index := 307) (k := 2) (rest := [sv_i Xg20_l5]) (ci := 10) (r := (RX11, TX11, 47)) (by decide +kernel) (sf_X11_waxOf l g A ty σ17 hok18 hTA hIu19 a k_a (ar1) ⟨by omega, by omega⟩ (Xg20_l6) ⟨by omega, by omega⟩) ⟨co_X11_waxOf, in_X11, ⟨by decide, by decide, by decide +kernel⟩, Nat.le_of_ble_eq_true rfl, Nat.le_of_ble_eq_true rfl⟩ ml_X11_307 im_X11_waxOf se_X11_waxOf (by rw [k_a]; rfl) rfl rfl rfl (Nat.le_of_ble_eq_true rfl) ⟨Nat.zero_le _, Nat.zero_le _⟩ (fun r25 σ26 hpo24 hok27 => ?_)
              obtain ⟨rfl, ⟨vu28, rfl, hvu28⟩⟩ := hpo24
              refine sv_same (st2 := [sv_i vu28, sv_i Xg20_l5]) (lv2 := [(0, sv_r a), (1, sv_i ar1), (4, sv_i ar4), (5, sv_i Xg20_l5), (6, sv_i Xg20_l6)]) rfl rfl ?_
              refine sv_go C.1 C.2.1 [(.iadd, 1), (.istore 5, 2), (.iinc 6 1, 3)] (pc' := 62) (by decide +kernel) rfl (lv' := [(0, sv_r a), (1, sv_i ar1), (4, sv_i ar4), (5, sv_i (Xg20_l5 + vu28)), (6, sv_i (Xg20_l6 + 1))]) (st' := []) rfl ?_
              refine sv_goto C.1 C.2.1 (off := (-22)) (tgt := 40) (by decide +kernel) (by decide) ?_
              obtain ⟨w29, hw29, ew29⟩ := sv_wr (Xg20_l5 + vu28)
              refine sv_sameD (st2 := []) (lv2 := [(0, sv_r a), (1, sv_i ar1), (4, sv_i ar4), (5, sv_i w29), (6, sv_i (Xg20_l6 + 1))]) (by simp only [List.map_cons, List.map_nil, sv_den_i, ew29]) (by simp only [sv_lm, List.map_cons, List.map_nil, sv_den_i, ew29]) ?_
              exact ih22 w29 (Xg20_l6 + 1) ⟨by omega, by omega⟩ ⟨by omega, by omega⟩ (by omega)
        refine sv_pick [0, 1, 4, 5, 6] (lv2 := [(0, sv_r a), (1, sv_i ar1), (4, sv_i ar4), (5, sv_i 0), (6, sv_i ar3)]) rfl ?_
        exact L21 (((366 - ar3 : Int)).toNat + 1) 0 ar3 ⟨by omega, by omega⟩ ⟨by omega, by omega⟩ (by omega)
      · refine sv_go C.1 C.2.1 [(.bipush (-2), 2)] (pc' := 27) (by decide +kernel) rfl (lv' := [(0, sv_r a), (1, sv_i ar1), (2, sv_i ar2), (3, sv_i ar3), (4, sv_i ar4)]) (st' := [sv_i ((-2))]) rfl ?_
        exact sv_iret C hr (by decide +kernel) hok11 (⟨⟨_, rfl, ⟨by omega, by omega⟩⟩, hI, hF⟩)
    · have hn13 := dy_lp_in ar2
      refine sv_same (st2 := [sv_i 0]) (lv2 := [(0, sv_r a), (1, sv_i ar1), (2, sv_i ar2), (3, sv_i ar3), (4, sv_i ar4)]) rfl rfl ?_
      refine sv_if_t C.1 C.2.1 (cnd := .eq) (off := 9) (tgt := 25) (by decide +kernel) (by decide) ⟨by omega, by omega⟩ (show 0 = 0 by omega) ?_
      refine sv_go C.1 C.2.1 [(.bipush (-2), 2)] (pc' := 27) (by decide +kernel) rfl (lv' := [(0, sv_r a), (1, sv_i ar1), (2, sv_i ar2), (3, sv_i ar3), (4, sv_i ar4)]) (st' := [sv_i ((-2))]) rfl ?_
      exact sv_iret C hr (by decide +kernel) hok11 (⟨⟨_, rfl, ⟨by omega, by omega⟩⟩, hI, hF⟩)

theorem cl_X11_310 : Cond.constantLong RX11 310 (8) ∈ lw_good := sv_mem 1406 (by decide +kernel) rfl
set_option maxHeartbeats 4000000 in
set_option maxRecDepth 100000 in
theorem sf_X11_next (l : Launch) (g : sv_G) (A : Nat → Prop) (ty : Nat → Nat) (σ : Nat → Nat → Int) (hok : sv_ok ty σ) (hTA : ∀ q, ty q ≠ 0 → A q) (hI : sv_inv sp_1 ty σ) (a : Nat) (k_a : ty a = 10) (ar1 : Int) (h_ar1 : (-2147483648) ≤ ar1 ∧ ar1 ≤ 2147483647) (ar2 : Int) (h_ar2 : (-2147483648) ≤ ar2 ∧ ar2 ≤ 2147483647) (ar3 : Int) (h_ar3 : (-2147483648) ≤ ar3 ∧ ar3 ≤ 2147483647) (ar4 : Int) (h_ar4 : (-2147483648) ≤ ar4 ∧ ar4 ≤ 2147483647) : sv_M l yX11_next cX11_next 7 (some .int) { frames := 6, cells := 0, slots := 0, locals := 138 } g A ty σ [sv_r a, sv_i ar1, sv_i ar2, sv_i ar3, sv_i ar4] (fun r σ' => (∃ rv : Int, r = [sv_i rv] ∧ ((-2) ≤ rv ∧ rv ≤ 2000365)) ∧ sv_inv sp_1 ty σ' ∧ sv_ofx [] [88, 89, 90, 91] ty σ σ') := by
  refine sv_enter (by decide) (Nat.le_of_ble_eq_true rfl) ?_
  intro p e s m args below meth c C hr
  have C : sv_C g A RX11 cX11_next 7 p s m args meth c := C
  have hr : meth.sig.returnType = (some .int) := hr
  have hF : sv_ofx [] [88, 89, 90, 91] ty σ σ := sv_ofx.rf
  refine sv_same (st2 := []) (lv2 := [(0, sv_r a), (1, sv_i ar1), (2, sv_i ar2), (3, sv_i ar3), (4, sv_i ar4)]) rfl rfl ?_
  refine sv_go C.1 C.2.1 [(.aload_n 0, 1), (.iload_n 1, 1), (.iload_n 2, 1), (.iload_n 3, 1)] (pc' := 4) (by decide +kernel) rfl (lv' := [(0, sv_r a), (1, sv_i ar1), (2, sv_i ar2), (3, sv_i ar3), (4, sv_i ar4)]) (st' := [sv_i ar3, sv_i ar2, sv_i ar1, sv_r a]) rfl ?_
  refine sv_cv C (index := 297) (k := 3) (rest := []) (ci := 10) (r := (RX11, TX11, 47)) (by decide +kernel) (sf_X11_isPlaced l g A ty σ hok hTA hI a k_a (ar1) ⟨by omega, by omega⟩ (ar2) ⟨by omega, by omega⟩ (ar3) ⟨by omega, by omega⟩) ⟨co_X11_isPlaced, in_X11, ⟨by decide, by decide, by decide +kernel⟩, Nat.le_of_ble_eq_true rfl, Nat.le_of_ble_eq_true rfl⟩ ml_X11_297 im_X11_isPlaced se_X11_isPlaced (by rw [k_a]; rfl) rfl rfl rfl (Nat.le_of_ble_eq_true rfl) ⟨Nat.zero_le _, Nat.zero_le _⟩ (fun r2 σ3 hpo1 hok4 => ?_)
  obtain ⟨rfl, ⟨vu5, rfl, hvu5, ivu5_0⟩⟩ := hpo1
  refine sv_same (st2 := [sv_i vu5]) (lv2 := [(0, sv_r a), (1, sv_i ar1), (2, sv_i ar2), (3, sv_i ar3), (4, sv_i ar4)]) rfl rfl ?_
  refine sv_if C.1 C.2.1 (cnd := .eq) (off := 16) (tgt := 23) (by decide +kernel) (by decide) ⟨by omega, by omega⟩ (fun (h6 : vu5 = 0) => ?_) (fun (h6 : ¬ (vu5 = 0)) => ?_)
  · refine sv_go C.1 C.2.1 [(.bipush (-2), 2)] (pc' := 25) (by decide +kernel) rfl (lv' := [(0, sv_r a), (1, sv_i ar1), (2, sv_i ar2), (3, sv_i ar3), (4, sv_i ar4)]) (st' := [sv_i ((-2))]) rfl ?_
    exact sv_iret C hr (by decide +kernel) hok4 (⟨⟨_, rfl, ⟨by omega, by omega⟩⟩, hI, hF⟩)
  · have hp7 := ivu5_0 (by omega) (by omega)
    refine sv_go C.1 C.2.1 [(.iload 4, 2)] (pc' := 12) (by decide +kernel) rfl (lv' := [(0, sv_r a), (1, sv_i ar1), (2, sv_i ar2), (3, sv_i ar3), (4, sv_i ar4)]) (st' := [sv_i ar4]) rfl ?_
    refine sv_i2l C.1 C.2.1 (by decide +kernel) ⟨by omega, by omega⟩ ?_
    refine sv_go C.1 C.2.1 [(.lconst 1, 1)] (pc' := 14) (by decide +kernel) rfl (lv' := [(0, sv_r a), (1, sv_i ar1), (2, sv_i ar2), (3, sv_i ar3), (4, sv_i ar4)]) (st' := [sv_l 1, sv_l ar4]) rfl ?_
    refine sv_ldc2 C (index := 310) (z := 8) (by decide +kernel) cl_X11_310 (by decide) ?_
    refine sv_cs C (index := 9) (k := 3) (rest := []) (by decide +kernel) (ct_X11_in l g A ty σ hok4 (ar4) ⟨by omega, by omega⟩ (1) ⟨by omega, by omega⟩ (8) ⟨by omega, by omega⟩) ⟨co_X11_in, in_X11, ⟨by decide, by decide, by decide +kernel⟩, Nat.le_of_ble_eq_true rfl, Nat.le_of_ble_eq_true rfl⟩ ml_X11_9 st_X11_in rfl rfl (Nat.le_of_ble_eq_true rfl) ⟨Nat.zero_le _, Nat.zero_le _⟩ (fun r9 σ10 hpo8 hok11 => ?_)
    obtain ⟨rfl, ⟨h12, rfl⟩ | ⟨h12, rfl⟩⟩ := hpo8
    · refine sv_same (st2 := [sv_i 1]) (lv2 := [(0, sv_r a), (1, sv_i ar1), (2, sv_i ar2), (3, sv_i ar3), (4, sv_i ar4)]) rfl rfl ?_
      refine sv_if_t C.1 C.2.1 (cnd := .ne) (off := 6) (tgt := 26) (by decide +kernel) (by decide) ⟨by omega, by omega⟩ (show 1 ≠ 0 by omega) ?_
      refine sv_go C.1 C.2.1 [(.iload_n 2, 1), (.istore 5, 2)] (pc' := 29) (by decide +kernel) rfl (lv' := [(0, sv_r a), (1, sv_i ar1), (2, sv_i ar2), (3, sv_i ar3), (4, sv_i ar4), (5, sv_i ar2)]) (st' := []) rfl ?_
      have L15 : ∀ (n : Nat) (Xg13_l5 : Int) (σ14 : Nat → Nat → Int), (1 ≤ Xg13_l5 ∧ Xg13_l5 ≤ 2001) → (sv_ok ty σ14) → (sv_inv sp_1 ty σ14) → (sv_ofx [] [88, 89, 90, 91] ty σ σ14) → (2001 - Xg13_l5) < (n : Int) → sv_E p l e { frames := 6, cells := 0, slots := 0, locals := 138 } s m args below meth c 7 g A ty (fun r σ' => (∃ rv : Int, r = [sv_i rv] ∧ ((-2) ≤ rv ∧ rv ≤ 2000365)) ∧ sv_inv sp_1 ty σ' ∧ sv_ofx [] [88, 89, 90, 91] ty σ σ') σ14 29 [(0, sv_r a), (1, sv_i ar1), (2, sv_i ar2), (3, sv_i ar3), (4, sv_i ar4), (5, sv_i Xg13_l5)] [] := by
        intro n
        induction n with
        | zero => intro Xg13_l5 σ14 hXg13_l5 okσ14 Iσ14 Fσ14 hmu; exact absurd hmu (by omega)
        | succ n ih16 =>
          intro Xg13_l5 σ14 hXg13_l5 okσ14 Iσ14 Fσ14 hmu
          refine sv_go C.1 C.2.1 [(.iload 5, 2), (.iload_n 2, 1), (.bipush 30, 2), (.iadd, 1)] (pc' := 35) (by decide +kernel) rfl (lv' := [(0, sv_r a), (1, sv_i ar1), (2, sv_i ar2), (3, sv_i ar3), (4, sv_i ar4), (5, sv_i Xg13_l5)]) (st' := [sv_i (ar2 + 30), sv_i Xg13_l5]) rfl ?_
          refine sv_icmp C.1 C.2.1 (cnd := .ge) (off := 94) (tgt := 129) (by decide +kernel) (by decide) ⟨by omega, by omega⟩ ⟨by omega, by omega⟩ (fun (h17 : (ar2 + 30) ≤ Xg13_l5) => ?_) (fun (h17 : ¬ ((ar2 + 30) ≤ Xg13_l5)) => ?_)
          · refine sv_go C.1 C.2.1 [(.iconst (-1), 1)] (pc' := 130) (by decide +kernel) rfl (lv' := [(0, sv_r a), (1, sv_i ar1), (2, sv_i ar2), (3, sv_i ar3), (4, sv_i ar4), (5, sv_i Xg13_l5)]) (st' := [sv_i ((-1))]) rfl ?_
            exact sv_iret C hr (by decide +kernel) okσ14 (⟨⟨_, rfl, ⟨by omega, by omega⟩⟩, Iσ14, Fσ14⟩)
          · refine sv_go C.1 C.2.1 [(.iload 5, 2), (.sipush 2000, 3)] (pc' := 43) (by decide +kernel) rfl (lv' := [(0, sv_r a), (1, sv_i ar1), (2, sv_i ar2), (3, sv_i ar3), (4, sv_i ar4), (5, sv_i Xg13_l5)]) (st' := [sv_i 2000, sv_i Xg13_l5]) rfl ?_
            refine sv_icmp C.1 C.2.1 (cnd := .gt) (off := 86) (tgt := 129) (by decide +kernel) (by decide) ⟨by omega, by omega⟩ ⟨by omega, by omega⟩ (fun (h18 : 2000 < Xg13_l5) => ?_) (fun (h18 : ¬ (2000 < Xg13_l5)) => ?_)
            · refine sv_go C.1 C.2.1 [(.iconst (-1), 1)] (pc' := 130) (by decide +kernel) rfl (lv' := [(0, sv_r a), (1, sv_i ar1), (2, sv_i ar2), (3, sv_i ar3), (4, sv_i ar4), (5, sv_i Xg13_l5)]) (st' := [sv_i ((-1))]) rfl ?_
              exact sv_iret C hr (by decide +kernel) okσ14 (⟨⟨_, rfl, ⟨by omega, by omega⟩⟩, Iσ14, Fσ14⟩)
            · refine sv_go C.1 C.2.1 [(.aload_n 0, 1), (.iload_n 1, 1), (.iload 5, 2)] (pc' := 50) (by decide +kernel) rfl (lv' := [(0, sv_r a), (1, sv_i ar1), (2, sv_i ar2), (3, sv_i ar3), (4, sv_i ar4), (5, sv_i Xg13_l5)]) (st' := [sv_i Xg13_l5, sv_i ar1, sv_r a]) rfl ?_
              refine sv_cv C (index := 301) (k := 2) (rest := []) (ci := 10) (r := (RX11, TX11, 47)) (by decide +kernel) (sf_X11_lead l g A ty σ14 okσ14 hTA Iσ14 a k_a (ar1) ⟨by omega, by omega⟩ (Xg13_l5) ⟨by omega, by omega⟩) ⟨co_X11_lead, in_X11, ⟨by decide, by decide, by decide +kernel⟩, Nat.le_of_ble_eq_true rfl, Nat.le_of_ble_eq_true rfl⟩ ml_X11_301 im_X11_lead se_X11_lead (by rw [k_a]; rfl) rfl rfl rfl (Nat.le_of_ble_eq_true rfl) ⟨Nat.zero_le _, Nat.zero_le _⟩ (fun r20 σ21 hpo19 hok22 => ?_)
              obtain ⟨rfl, hIu23, hFu23⟩ := hpo19
              have hGu23 := Fσ14.tr hFu23 (by decide) (by decide)
              refine sv_same (st2 := []) (lv2 := [(0, sv_r a), (1, sv_i ar1), (2, sv_i ar2), (3, sv_i ar3), (4, sv_i ar4), (5, sv_i Xg13_l5)]) rfl rfl ?_
              refine sv_go C.1 C.2.1 [(.iload 5, 2), (.iload_n 2, 1)] (pc' := 56) (by decide +kernel) rfl (lv' := [(0, sv_r a), (1, sv_i ar1), (2, sv_i ar2), (3, sv_i ar3), (4, sv_i ar4), (5, sv_i Xg13_l5)]) (st' := [sv_i ar2, sv_i Xg13_l5]) rfl ?_
              have J26 : ∀ (Jg25_s0 : Int), (0 ≤ Jg25_s0 ∧ Jg25_s0 ≤ 365) → sv_E p l e { frames := 6, cells := 0, slots := 0, locals := 138 } s m args below meth c 7 g A ty (fun r σ' => (∃ rv : Int, r = [sv_i rv] ∧ ((-2) ≤ rv ∧ rv ≤ 2000365)) ∧ sv_inv sp_1 ty σ' ∧ sv_ofx [] [88, 89, 90, 91] ty σ σ') σ21 64 [(0, sv_r a), (1, sv_i ar1), (2, sv_i ar2), (3, sv_i ar3), (4, sv_i ar4), (5, sv_i Xg13_l5)] [sv_i Jg25_s0] := by
                intro Jg25_s0 hJg25_s0
                refine sv_go C.1 C.2.1 [(.istore 6, 2)] (pc' := 66) (by decide +kernel) rfl (lv' := [(0, sv_r a), (1, sv_i ar1), (2, sv_i ar2), (3, sv_i ar3), (4, sv_i ar4), (5, sv_i Xg13_l5), (6, sv_i Jg25_s0)]) (st' := []) rfl ?_
                have L28 : ∀ (n : Nat) (Xg27_l6 : Int), (0 ≤ Xg27_l6 ∧ Xg27_l6 ≤ 366) → (366 - Xg27_l6) < (n : Int) → sv_E p l e { frames := 6, cells := 0, slots := 0, locals := 138 } s m args below meth c 7 g A ty (fun r σ' => (∃ rv : Int, r = [sv_i rv] ∧ ((-2) ≤ rv ∧ rv ≤ 2000365)) ∧ sv_inv sp_1 ty σ' ∧ sv_ofx [] [88, 89, 90, 91] ty σ σ') σ21 66 [(0, sv_r a), (1, sv_i ar1), (2, sv_i ar2), (3, sv_i ar3), (4, sv_i ar4), (5, sv_i Xg13_l5), (6, sv_i Xg27_l6)] [] := by
                  intro n
                  induction n with
                  | zero => intro Xg27_l6 hXg27_l6 hmu; exact absurd hmu (by omega)
                  | succ n ih29 =>
                    intro Xg27_l6 hXg27_l6 hmu
                    refine sv_go C.1 C.2.1 [(.iload 6, 2), (.iload 5, 2)] (pc' := 70) (by decide +kernel) rfl (lv' := [(0, sv_r a), (1, sv_i ar1), (2, sv_i ar2), (3, sv_i ar3), (4, sv_i ar4), (5, sv_i Xg13_l5), (6, sv_i Xg27_l6)]) (st' := [sv_i Xg13_l5, sv_i Xg27_l6]) rfl ?_
                    refine sv_cs C (index := 16) (k := 1) (rest := [sv_i Xg27_l6]) (by decide +kernel) (ct_X11_daysOf l g A ty σ21 hok22 (Xg13_l5) ⟨by omega, by omega⟩) ⟨co_X11_daysOf, in_X11, ⟨by decide, by decide, by decide +kernel⟩, Nat.le_of_ble_eq_true rfl, Nat.le_of_ble_eq_true rfl⟩ ml_X11_16 st_X11_daysOf rfl rfl (Nat.le_of_ble_eq_true rfl) ⟨Nat.zero_le _, Nat.zero_le _⟩ (fun r31 σ32 hpo30 hok33 => ?_)
                    obtain ⟨rfl, rfl⟩ := hpo30
                    have hn35 := dy_lp_in Xg13_l5
                    refine sv_same (st2 := [sv_i (365 + dy_lp Xg13_l5), sv_i Xg27_l6]) (lv2 := [(0, sv_r a), (1, sv_i ar1), (2, sv_i ar2), (3, sv_i ar3), (4, sv_i ar4), (5, sv_i Xg13_l5), (6, sv_i Xg27_l6)]) rfl rfl ?_
                    refine sv_icmp C.1 C.2.1 (cnd := .ge) (off := 50) (tgt := 123) (by decide +kernel) (by decide) ⟨by omega, by omega⟩ ⟨by omega, by omega⟩ (fun (h36 : (365 + dy_lp Xg13_l5) ≤ Xg27_l6) => ?_) (fun (h36 : ¬ ((365 + dy_lp Xg13_l5) ≤ Xg27_l6)) => ?_)
                    · refine sv_go C.1 C.2.1 [(.iinc 5 1, 3)] (pc' := 126) (by decide +kernel) rfl (lv' := [(0, sv_r a), (1, sv_i ar1), (2, sv_i ar2), (3, sv_i ar3), (4, sv_i ar4), (5, sv_i (Xg13_l5 + 1)), (6, sv_i Xg27_l6)]) (st' := []) rfl ?_
                      refine sv_goto C.1 C.2.1 (off := (-97)) (tgt := 29) (by decide +kernel) (by decide) ?_
                      refine sv_pick [0, 1, 2, 3, 4, 5] (lv2 := [(0, sv_r a), (1, sv_i ar1), (2, sv_i ar2), (3, sv_i ar3), (4, sv_i ar4), (5, sv_i (Xg13_l5 + 1))]) rfl ?_
                      exact ih16 (Xg13_l5 + 1) σ21 ⟨by omega, by omega⟩ hok33 hIu23 hGu23 (by omega)
                    · refine sv_go C.1 C.2.1 [(.aload_n 0, 1)] (pc' := 77) (by decide +kernel) rfl (lv' := [(0, sv_r a), (1, sv_i ar1), (2, sv_i ar2), (3, sv_i ar3), (4, sv_i ar4), (5, sv_i Xg13_l5), (6, sv_i Xg27_l6)]) (st' := [sv_r a]) rfl ?_
                      obtain ⟨v37, ev37, kv37⟩ := hIu23.ref (k := 31) k_a rfl
                      refine sv_gf C (index := 121) (ci := 10) (k := 31) (r := (RX11, TX11, 47)) (v := sv_r v37) (by decide +kernel) (by rw [k_a]; rfl) rfl (by decide) fl_X11_121 (congrArg sv_a ev37) ?_
                      refine sv_go C.1 C.2.1 [(.iload 6, 2)] (pc' := 82) (by decide +kernel) rfl (lv' := [(0, sv_r a), (1, sv_i ar1), (2, sv_i ar2), (3, sv_i ar3), (4, sv_i ar4), (5, sv_i Xg13_l5), (6, sv_i Xg27_l6)]) (st' := [sv_i Xg27_l6, sv_r v37]) rfl ?_
                      refine sv_ia C (n := 366) (by decide +kernel) (by rw [kv37]; rfl) (by decide) (by omega) (by omega) ?_
                      obtain ⟨v38, ev38, hv38⟩ := sv_rdn hIu23 (k := (Xg27_l6 : Int).toNat) kv37 rfl
                      rw [ev38]
                      refine sv_if C.1 C.2.1 (cnd := .lt) (off := 34) (tgt := 117) (by decide +kernel) (by decide) ⟨by omega, by omega⟩ (fun (h39 : v38 < 0) => ?_) (fun (h39 : ¬ (v38 < 0)) => ?_)
                      · refine sv_go C.1 C.2.1 [(.iinc 6 1, 3)] (pc' := 120) (by decide +kernel) rfl (lv' := [(0, sv_r a), (1, sv_i ar1), (2, sv_i ar2), (3, sv_i ar3), (4, sv_i ar4), (5, sv_i Xg13_l5), (6, sv_i (Xg27_l6 + 1))]) (st' := []) rfl ?_
                        refine sv_goto C.1 C.2.1 (off := (-54)) (tgt := 66) (by decide +kernel) (by decide) ?_
                        exact ih29 (Xg27_l6 + 1) ⟨by omega, by omega⟩ (by omega)
                      · refine sv_go C.1 C.2.1 [(.aload_n 0, 1)] (pc' := 87) (by decide +kernel) rfl (lv' := [(0, sv_r a), (1, sv_i ar1), (2, sv_i ar2), (3, sv_i ar3), (4, sv_i ar4), (5, sv_i Xg13_l5), (6, sv_i Xg27_l6)]) (st' := [sv_r a]) rfl ?_
                        obtain ⟨v40, ev40, kv40⟩ := hIu23.ref (k := 8) k_a rfl
                        refine sv_gf C (index := 72) (ci := 10) (k := 8) (r := (RX11, TX11, 47)) (v := sv_r v40) (by decide +kernel) (by rw [k_a]; rfl) rfl (by decide) fl_X11_72 (congrArg sv_a ev40) ?_
                        refine sv_go C.1 C.2.1 [(.iload_n 1, 1), (.aload_n 0, 1)] (pc' := 92) (by decide +kernel) rfl (lv' := [(0, sv_r a), (1, sv_i ar1), (2, sv_i ar2), (3, sv_i ar3), (4, sv_i ar4), (5, sv_i Xg13_l5), (6, sv_i Xg27_l6)]) (st' := [sv_r a, sv_i ar1, sv_r v40]) rfl ?_
                        refine sv_gf C (index := 121) (ci := 10) (k := 31) (r := (RX11, TX11, 47)) (v := sv_r v37) (by decide +kernel) (by rw [k_a]; rfl) rfl (by decide) fl_X11_121 (congrArg sv_a ev37) ?_
                        refine sv_go C.1 C.2.1 [(.iload 6, 2)] (pc' := 97) (by decide +kernel) rfl (lv' := [(0, sv_r a), (1, sv_i ar1), (2, sv_i ar2), (3, sv_i ar3), (4, sv_i ar4), (5, sv_i Xg13_l5), (6, sv_i Xg27_l6)]) (st' := [sv_i Xg27_l6, sv_r v37, sv_i ar1, sv_r v40]) rfl ?_
                        refine sv_ia C (n := 366) (by decide +kernel) (by rw [kv37]; rfl) (by decide) (by omega) (by omega) ?_
                        rw [ev38]
                        refine sv_cs C (index := 166) (k := 2) (rest := [sv_r v40]) (by decide +kernel) (sf_X11_at l g A ty σ21 hok33 hTA hIu23 (ar1) ⟨by omega, by omega⟩ (v38) ⟨by omega, by omega⟩) ⟨co_X11_at, in_X11, ⟨by decide, by decide, by decide +kernel⟩, Nat.le_of_ble_eq_true rfl, Nat.le_of_ble_eq_true rfl⟩ ml_X11_166 st_X11_at rfl rfl (Nat.le_of_ble_eq_true rfl) ⟨Nat.zero_le _, Nat.zero_le _⟩ (fun r42 σ43 hpo41 hok44 => ?_)
                        obtain ⟨rfl, ⟨vu45, rfl, hvu45⟩⟩ := hpo41
                        refine sv_same (st2 := [sv_i vu45, sv_r v40]) (lv2 := [(0, sv_r a), (1, sv_i ar1), (2, sv_i ar2), (3, sv_i ar3), (4, sv_i ar4), (5, sv_i Xg13_l5), (6, sv_i Xg27_l6)]) rfl rfl ?_
                        refine sv_ia C (n := 300) (by decide +kernel) (by rw [kv40]; rfl) (by decide) (by omega) (by omega) ?_
                        obtain ⟨v46, ev46, hv46⟩ := sv_rdn hIu23 (k := (vu45 : Int).toNat) kv40 rfl
                        rw [ev46]
                        refine sv_go C.1 C.2.1 [(.iload 4, 2)] (pc' := 104) (by decide +kernel) rfl (lv' := [(0, sv_r a), (1, sv_i ar1), (2, sv_i ar2), (3, sv_i ar3), (4, sv_i ar4), (5, sv_i Xg13_l5), (6, sv_i Xg27_l6)]) (st' := [sv_i ar4, sv_i v46]) rfl ?_
                        refine sv_icmp C.1 C.2.1 (cnd := .gt) (off := 13) (tgt := 117) (by decide +kernel) (by decide) ⟨by omega, by omega⟩ ⟨by omega, by omega⟩ (fun (h47 : ar4 < v46) => ?_) (fun (h47 : ¬ (ar4 < v46)) => ?_)
                        · refine sv_go C.1 C.2.1 [(.iinc 6 1, 3)] (pc' := 120) (by decide +kernel) rfl (lv' := [(0, sv_r a), (1, sv_i ar1), (2, sv_i ar2), (3, sv_i ar3), (4, sv_i ar4), (5, sv_i Xg13_l5), (6, sv_i (Xg27_l6 + 1))]) (st' := []) rfl ?_
                          refine sv_goto C.1 C.2.1 (off := (-54)) (tgt := 66) (by decide +kernel) (by decide) ?_
                          exact ih29 (Xg27_l6 + 1) ⟨by omega, by omega⟩ (by omega)
                        · refine sv_go C.1 C.2.1 [(.sipush 1000, 3), (.iload 5, 2), (.imul, 1), (.iload 6, 2), (.iadd, 1)] (pc' := 116) (by decide +kernel) rfl (lv' := [(0, sv_r a), (1, sv_i ar1), (2, sv_i ar2), (3, sv_i ar3), (4, sv_i ar4), (5, sv_i Xg13_l5), (6, sv_i Xg27_l6)]) (st' := [sv_i ((1000 * Xg13_l5) + Xg27_l6)]) rfl ?_
                          exact sv_iret C hr (by decide +kernel) hok44 (⟨⟨_, rfl, ⟨by omega, by omega⟩⟩, hIu23, hGu23⟩)
                exact L28 (((366 - Jg25_s0 : Int)).toNat + 1) Jg25_s0 ⟨by omega, by omega⟩ (by omega)
              refine sv_icmp C.1 C.2.1 (cnd := .ne) (off := 7) (tgt := 63) (by decide +kernel) (by decide) ⟨by omega, by omega⟩ ⟨by omega, by omega⟩ (fun (h24 : Xg13_l5 ≠ ar2) => ?_) (fun (h24 : ¬ (Xg13_l5 ≠ ar2)) => ?_)
              · refine sv_go C.1 C.2.1 [(.iconst 0, 1)] (pc' := 64) (by decide +kernel) rfl (lv' := [(0, sv_r a), (1, sv_i ar1), (2, sv_i ar2), (3, sv_i ar3), (4, sv_i ar4), (5, sv_i Xg13_l5)]) (st' := [sv_i 0]) rfl ?_
                exact J26 0 ⟨by omega, by omega⟩
              · refine sv_go C.1 C.2.1 [(.iload_n 3, 1)] (pc' := 60) (by decide +kernel) rfl (lv' := [(0, sv_r a), (1, sv_i ar1), (2, sv_i ar2), (3, sv_i ar3), (4, sv_i ar4), (5, sv_i Xg13_l5)]) (st' := [sv_i ar3]) rfl ?_
                refine sv_goto C.1 C.2.1 (off := 4) (tgt := 64) (by decide +kernel) (by decide) ?_
                exact J26 ar3 ⟨by omega, by omega⟩
      exact L15 (((2001 - ar2 : Int)).toNat + 1) ar2 σ ⟨by omega, by omega⟩ hok11 hI hF (by omega)
    · refine sv_same (st2 := [sv_i 0]) (lv2 := [(0, sv_r a), (1, sv_i ar1), (2, sv_i ar2), (3, sv_i ar3), (4, sv_i ar4)]) rfl rfl ?_
      refine sv_if_f C.1 C.2.1 (cnd := .ne) (off := 6) (tgt := 26) (by decide +kernel) (by decide) ⟨by omega, by omega⟩ (show ¬ (0 ≠ 0) by omega) ?_
      refine sv_go C.1 C.2.1 [(.bipush (-2), 2)] (pc' := 25) (by decide +kernel) rfl (lv' := [(0, sv_r a), (1, sv_i ar1), (2, sv_i ar2), (3, sv_i ar3), (4, sv_i ar4)]) (st' := [sv_i ((-2))]) rfl ?_
      exact sv_iret C hr (by decide +kernel) hok11 (⟨⟨_, rfl, ⟨by omega, by omega⟩⟩, hI, hF⟩)

theorem ml_X11_266 : Cond.methodLink RX11 266 yX11_isNamed ∈ lw_good := sv_mem 1340 (by decide +kernel) rfl
theorem co_X11_isNamed : Cond.code yX11_isNamed cX11_isNamed 5 (some .boolean) ∈ lw_good := sv_mem 1343 (by decide +kernel) rfl
theorem im_X11_isNamed : Cond.instanceMethod yX11_isNamed ∈ lw_good := sv_mem 1342 (by decide +kernel) rfl
theorem se_X11_isNamed : Cond.selects RX11 yX11_isNamed yX11_isNamed ∈ lw_good := sv_mem 57 (by decide +kernel) rfl
set_option maxHeartbeats 4000000 in
set_option maxRecDepth 100000 in
theorem sf_X11_areLike (l : Launch) (g : sv_G) (A : Nat → Prop) (ty : Nat → Nat) (σ : Nat → Nat → Int) (hok : sv_ok ty σ) (hTA : ∀ q, ty q ≠ 0 → A q) (hI : sv_inv sp_1 ty σ) (a : Nat) (k_a : ty a = 10) (p1 : Int) (h_p1 : 0 ≤ p1 ∧ p1 ≤ 3) (v : Int) (h_v : (-79) ≤ v ∧ v ≤ 59) (q1 : Int) (h_q1 : 0 ≤ q1 ∧ q1 ≤ 3) (w : Int) (h_w : (-79) ≤ w ∧ w ≤ 59) : sv_M l yX11_areLike cX11_areLike 5 (some .boolean) { frames := 1, cells := 0, slots := 0, locals := 24 } g A ty σ [sv_r a, sv_i p1, sv_i v, sv_i q1, sv_i w] (fun r σ' => σ = σ' ∧ ∃ rv : Int, r = [sv_i rv] ∧ (0 ≤ rv ∧ rv ≤ 1)) := by
  refine sv_enter (by decide) (Nat.le_of_ble_eq_true rfl) ?_
  intro p e s m args below meth c C hr
  have C : sv_C g A RX11 cX11_areLike 5 p s m args meth c := C
  have hr : meth.sig.returnType = (some .boolean) := hr
  have hF : sv_ofx [] [] ty σ σ := sv_ofx.rf
  refine sv_same (st2 := []) (lv2 := [(0, sv_r a), (1, sv_i p1), (2, sv_i v), (3, sv_i q1), (4, sv_i w)]) rfl rfl ?_
  refine sv_go C.1 C.2.1 [(.iload_n 2, 1)] (pc' := 1) (by decide +kernel) rfl (lv' := [(0, sv_r a), (1, sv_i p1), (2, sv_i v), (3, sv_i q1), (4, sv_i w)]) (st' := [sv_i v]) rfl ?_
  refine sv_if C.1 C.2.1 (cnd := .lt) (off := 24) (tgt := 25) (by decide +kernel) (by decide) ⟨by omega, by omega⟩ (fun (h1 : v < 0) => ?_) (fun (h1 : ¬ (v < 0)) => ?_)
  · refine sv_go C.1 C.2.1 [(.iload_n 2, 1), (.bipush (-20), 2)] (pc' := 28) (by decide +kernel) rfl (lv' := [(0, sv_r a), (1, sv_i p1), (2, sv_i v), (3, sv_i q1), (4, sv_i w)]) (st' := [sv_i ((-20)), sv_i v]) rfl ?_
    refine sv_icmp C.1 C.2.1 (cnd := .gt) (off := 32) (tgt := 60) (by decide +kernel) (by decide) ⟨by omega, by omega⟩ ⟨by omega, by omega⟩ (fun (h2 : ((-20)) < v) => ?_) (fun (h2 : ¬ (((-20)) < v)) => ?_)
    · refine sv_go C.1 C.2.1 [(.iload_n 2, 1), (.iload 4, 2)] (pc' := 63) (by decide +kernel) rfl (lv' := [(0, sv_r a), (1, sv_i p1), (2, sv_i v), (3, sv_i q1), (4, sv_i w)]) (st' := [sv_i w, sv_i v]) rfl ?_
      refine sv_icmp C.1 C.2.1 (cnd := .ne) (off := 17) (tgt := 80) (by decide +kernel) (by decide) ⟨by omega, by omega⟩ ⟨by omega, by omega⟩ (fun (h3 : v ≠ w) => ?_) (fun (h3 : ¬ (v ≠ w)) => ?_)
      · refine sv_go C.1 C.2.1 [(.iconst 0, 1)] (pc' := 81) (by decide +kernel) rfl (lv' := [(0, sv_r a), (1, sv_i p1), (2, sv_i v), (3, sv_i q1), (4, sv_i w)]) (st' := [sv_i 0]) rfl ?_
        exact sv_zret C hr (by omega) (by decide +kernel) hok (⟨rfl, ⟨_, rfl, ⟨by omega, by omega⟩⟩⟩)
      · refine sv_go C.1 C.2.1 [(.iload_n 2, 1)] (pc' := 67) (by decide +kernel) rfl (lv' := [(0, sv_r a), (1, sv_i p1), (2, sv_i v), (3, sv_i q1), (4, sv_i w)]) (st' := [sv_i v]) rfl ?_
        refine sv_if_f C.1 C.2.1 (cnd := .ge) (off := 13) (tgt := 80) (by decide +kernel) (by decide) ⟨by omega, by omega⟩ (show ¬ (0 ≤ v) by omega) ?_
        refine sv_go C.1 C.2.1 [(.iload_n 2, 1), (.bipush (-20), 2)] (pc' := 73) (by decide +kernel) rfl (lv' := [(0, sv_r a), (1, sv_i p1), (2, sv_i v), (3, sv_i q1), (4, sv_i w)]) (st' := [sv_i ((-20)), sv_i v]) rfl ?_
        refine sv_icmp_f C.1 C.2.1 (cnd := .le) (off := 7) (tgt := 80) (by decide +kernel) (by decide) ⟨by omega, by omega⟩ ⟨by omega, by omega⟩ (show ¬ (v ≤ ((-20))) by omega) ?_
        refine sv_go C.1 C.2.1 [(.iconst 1, 1)] (pc' := 77) (by decide +kernel) rfl (lv' := [(0, sv_r a), (1, sv_i p1), (2, sv_i v), (3, sv_i q1), (4, sv_i w)]) (st' := [sv_i 1]) rfl ?_
        refine sv_goto C.1 C.2.1 (off := 4) (tgt := 81) (by decide +kernel) (by decide) ?_
        exact sv_zret C hr (by omega) (by decide +kernel) hok (⟨rfl, ⟨_, rfl, ⟨by omega, by omega⟩⟩⟩)
    · refine sv_go C.1 C.2.1 [(.iload 4, 2), (.bipush (-20), 2)] (pc' := 35) (by decide +kernel) rfl (lv' := [(0, sv_r a), (1, sv_i p1), (2, sv_i v), (3, sv_i q1), (4, sv_i w)]) (st' := [sv_i ((-20)), sv_i w]) rfl ?_
      refine sv_icmp C.1 C.2.1 (cnd := .gt) (off := 25) (tgt := 60) (by decide +kernel) (by decide) ⟨by omega, by omega⟩ ⟨by omega, by omega⟩ (fun (h4 : ((-20)) < w) => ?_) (fun (h4 : ¬ (((-20)) < w)) => ?_)
      · refine sv_go C.1 C.2.1 [(.iload_n 2, 1), (.iload 4, 2)] (pc' := 63) (by decide +kernel) rfl (lv' := [(0, sv_r a), (1, sv_i p1), (2, sv_i v), (3, sv_i q1), (4, sv_i w)]) (st' := [sv_i w, sv_i v]) rfl ?_
        refine sv_icmp_t C.1 C.2.1 (cnd := .ne) (off := 17) (tgt := 80) (by decide +kernel) (by decide) ⟨by omega, by omega⟩ ⟨by omega, by omega⟩ (show v ≠ w by omega) ?_
        refine sv_go C.1 C.2.1 [(.iconst 0, 1)] (pc' := 81) (by decide +kernel) rfl (lv' := [(0, sv_r a), (1, sv_i p1), (2, sv_i v), (3, sv_i q1), (4, sv_i w)]) (st' := [sv_i 0]) rfl ?_
        exact sv_zret C hr (by omega) (by decide +kernel) hok (⟨rfl, ⟨_, rfl, ⟨by omega, by omega⟩⟩⟩)
      · refine sv_go C.1 C.2.1 [(.aload_n 0, 1), (.iload_n 1, 1), (.bipush (-20), 2), (.iload_n 2, 1), (.isub, 1)] (pc' := 44) (by decide +kernel) rfl (lv' := [(0, sv_r a), (1, sv_i p1), (2, sv_i v), (3, sv_i q1), (4, sv_i w)]) (st' := [sv_i (((-20)) - v), sv_i p1, sv_r a]) rfl ?_
        refine sv_cs C (index := 166) (k := 2) (rest := [sv_r a]) (by decide +kernel) (sf_X11_at l g A ty σ hok hTA hI (p1) ⟨by omega, by omega⟩ (((-20)) - v) ⟨by omega, by omega⟩) ⟨co_X11_at, in_X11, ⟨by decide, by decide, by decide +kernel⟩, Nat.le_of_ble_eq_true rfl, Nat.le_of_ble_eq_true rfl⟩ ml_X11_166 st_X11_at rfl rfl (Nat.le_of_ble_eq_true rfl) ⟨Nat.zero_le _, Nat.zero_le _⟩ (fun r6 σ7 hpo5 hok8 => ?_)
        obtain ⟨rfl, ⟨vu9, rfl, hvu9⟩⟩ := hpo5
        refine sv_same (st2 := [sv_i vu9, sv_r a]) (lv2 := [(0, sv_r a), (1, sv_i p1), (2, sv_i v), (3, sv_i q1), (4, sv_i w)]) rfl rfl ?_
        refine sv_go C.1 C.2.1 [(.iload_n 3, 1), (.bipush (-20), 2), (.iload 4, 2), (.isub, 1)] (pc' := 53) (by decide +kernel) rfl (lv' := [(0, sv_r a), (1, sv_i p1), (2, sv_i v), (3, sv_i q1), (4, sv_i w)]) (st' := [sv_i (((-20)) - w), sv_i q1, sv_i vu9, sv_r a]) rfl ?_
        refine sv_cs C (index := 166) (k := 2) (rest := [sv_i vu9, sv_r a]) (by decide +kernel) (sf_X11_at l g A ty σ hok8 hTA hI (q1) ⟨by omega, by omega⟩ (((-20)) - w) ⟨by omega, by omega⟩) ⟨co_X11_at, in_X11, ⟨by decide, by decide, by decide +kernel⟩, Nat.le_of_ble_eq_true rfl, Nat.le_of_ble_eq_true rfl⟩ ml_X11_166 st_X11_at rfl rfl (Nat.le_of_ble_eq_true rfl) ⟨Nat.zero_le _, Nat.zero_le _⟩ (fun r11 σ12 hpo10 hok13 => ?_)
        obtain ⟨rfl, ⟨vu14, rfl, hvu14⟩⟩ := hpo10
        refine sv_same (st2 := [sv_i vu14, sv_i vu9, sv_r a]) (lv2 := [(0, sv_r a), (1, sv_i p1), (2, sv_i v), (3, sv_i q1), (4, sv_i w)]) rfl rfl ?_
        refine sv_cv C (index := 266) (k := 2) (rest := []) (ci := 10) (r := (RX11, TX11, 47)) (by decide +kernel) (sf_X11_isNamed l g A ty σ hok13 hTA hI a k_a (vu9) ⟨by omega, by omega⟩ (vu14) ⟨by omega, by omega⟩) ⟨co_X11_isNamed, in_X11, ⟨by decide, by decide, by decide +kernel⟩, Nat.le_of_ble_eq_true rfl, Nat.le_of_ble_eq_true rfl⟩ ml_X11_266 im_X11_isNamed se_X11_isNamed (by rw [k_a]; rfl) rfl rfl rfl (Nat.le_of_ble_eq_true rfl) ⟨Nat.zero_le _, Nat.zero_le _⟩ (fun r16 σ17 hpo15 hok18 => ?_)
        obtain ⟨rfl, ⟨vu19, rfl, hvu19⟩⟩ := hpo15
        refine sv_same (st2 := [sv_i vu19]) (lv2 := [(0, sv_r a), (1, sv_i p1), (2, sv_i v), (3, sv_i q1), (4, sv_i w)]) rfl rfl ?_
        exact sv_zret C hr (by omega) (by decide +kernel) hok18 (⟨rfl, ⟨_, rfl, ⟨by omega, by omega⟩⟩⟩)
  · refine sv_go C.1 C.2.1 [(.iload 4, 2)] (pc' := 6) (by decide +kernel) rfl (lv' := [(0, sv_r a), (1, sv_i p1), (2, sv_i v), (3, sv_i q1), (4, sv_i w)]) (st' := [sv_i w]) rfl ?_
    refine sv_if C.1 C.2.1 (cnd := .lt) (off := 19) (tgt := 25) (by decide +kernel) (by decide) ⟨by omega, by omega⟩ (fun (h20 : w < 0) => ?_) (fun (h20 : ¬ (w < 0)) => ?_)
    · refine sv_go C.1 C.2.1 [(.iload_n 2, 1), (.bipush (-20), 2)] (pc' := 28) (by decide +kernel) rfl (lv' := [(0, sv_r a), (1, sv_i p1), (2, sv_i v), (3, sv_i q1), (4, sv_i w)]) (st' := [sv_i ((-20)), sv_i v]) rfl ?_
      refine sv_icmp_t C.1 C.2.1 (cnd := .gt) (off := 32) (tgt := 60) (by decide +kernel) (by decide) ⟨by omega, by omega⟩ ⟨by omega, by omega⟩ (show ((-20)) < v by omega) ?_
      refine sv_go C.1 C.2.1 [(.iload_n 2, 1), (.iload 4, 2)] (pc' := 63) (by decide +kernel) rfl (lv' := [(0, sv_r a), (1, sv_i p1), (2, sv_i v), (3, sv_i q1), (4, sv_i w)]) (st' := [sv_i w, sv_i v]) rfl ?_
      refine sv_icmp_t C.1 C.2.1 (cnd := .ne) (off := 17) (tgt := 80) (by decide +kernel) (by decide) ⟨by omega, by omega⟩ ⟨by omega, by omega⟩ (show v ≠ w by omega) ?_
      refine sv_go C.1 C.2.1 [(.iconst 0, 1)] (pc' := 81) (by decide +kernel) rfl (lv' := [(0, sv_r a), (1, sv_i p1), (2, sv_i v), (3, sv_i q1), (4, sv_i w)]) (st' := [sv_i 0]) rfl ?_
      exact sv_zret C hr (by omega) (by decide +kernel) hok (⟨rfl, ⟨_, rfl, ⟨by omega, by omega⟩⟩⟩)
    · refine sv_go C.1 C.2.1 [(.aload_n 0, 1), (.iload_n 1, 1), (.iload_n 2, 1)] (pc' := 12) (by decide +kernel) rfl (lv' := [(0, sv_r a), (1, sv_i p1), (2, sv_i v), (3, sv_i q1), (4, sv_i w)]) (st' := [sv_i v, sv_i p1, sv_r a]) rfl ?_
      refine sv_cs C (index := 166) (k := 2) (rest := [sv_r a]) (by decide +kernel) (sf_X11_at l g A ty σ hok hTA hI (p1) ⟨by omega, by omega⟩ (v) ⟨by omega, by omega⟩) ⟨co_X11_at, in_X11, ⟨by decide, by decide, by decide +kernel⟩, Nat.le_of_ble_eq_true rfl, Nat.le_of_ble_eq_true rfl⟩ ml_X11_166 st_X11_at rfl rfl (Nat.le_of_ble_eq_true rfl) ⟨Nat.zero_le _, Nat.zero_le _⟩ (fun r22 σ23 hpo21 hok24 => ?_)
      obtain ⟨rfl, ⟨vu25, rfl, hvu25⟩⟩ := hpo21
      refine sv_same (st2 := [sv_i vu25, sv_r a]) (lv2 := [(0, sv_r a), (1, sv_i p1), (2, sv_i v), (3, sv_i q1), (4, sv_i w)]) rfl rfl ?_
      refine sv_go C.1 C.2.1 [(.iload_n 3, 1), (.iload 4, 2)] (pc' := 18) (by decide +kernel) rfl (lv' := [(0, sv_r a), (1, sv_i p1), (2, sv_i v), (3, sv_i q1), (4, sv_i w)]) (st' := [sv_i w, sv_i q1, sv_i vu25, sv_r a]) rfl ?_
      refine sv_cs C (index := 166) (k := 2) (rest := [sv_i vu25, sv_r a]) (by decide +kernel) (sf_X11_at l g A ty σ hok24 hTA hI (q1) ⟨by omega, by omega⟩ (w) ⟨by omega, by omega⟩) ⟨co_X11_at, in_X11, ⟨by decide, by decide, by decide +kernel⟩, Nat.le_of_ble_eq_true rfl, Nat.le_of_ble_eq_true rfl⟩ ml_X11_166 st_X11_at rfl rfl (Nat.le_of_ble_eq_true rfl) ⟨Nat.zero_le _, Nat.zero_le _⟩ (fun r27 σ28 hpo26 hok29 => ?_)
      obtain ⟨rfl, ⟨vu30, rfl, hvu30⟩⟩ := hpo26
      refine sv_same (st2 := [sv_i vu30, sv_i vu25, sv_r a]) (lv2 := [(0, sv_r a), (1, sv_i p1), (2, sv_i v), (3, sv_i q1), (4, sv_i w)]) rfl rfl ?_
      refine sv_cv C (index := 266) (k := 2) (rest := []) (ci := 10) (r := (RX11, TX11, 47)) (by decide +kernel) (sf_X11_isNamed l g A ty σ hok29 hTA hI a k_a (vu25) ⟨by omega, by omega⟩ (vu30) ⟨by omega, by omega⟩) ⟨co_X11_isNamed, in_X11, ⟨by decide, by decide, by decide +kernel⟩, Nat.le_of_ble_eq_true rfl, Nat.le_of_ble_eq_true rfl⟩ ml_X11_266 im_X11_isNamed se_X11_isNamed (by rw [k_a]; rfl) rfl rfl rfl (Nat.le_of_ble_eq_true rfl) ⟨Nat.zero_le _, Nat.zero_le _⟩ (fun r32 σ33 hpo31 hok34 => ?_)
      obtain ⟨rfl, ⟨vu35, rfl, hvu35⟩⟩ := hpo31
      refine sv_same (st2 := [sv_i vu35]) (lv2 := [(0, sv_r a), (1, sv_i p1), (2, sv_i v), (3, sv_i q1), (4, sv_i w)]) rfl rfl ?_
      exact sv_zret C hr (by omega) (by decide +kernel) hok34 (⟨rfl, ⟨_, rfl, ⟨by omega, by omega⟩⟩⟩)

theorem fl_X11_124 : Cond.fieldLink RX11 124 "SaintsRoadModel" "otherOffice" "[I" ∈ lw_good := sv_mem 1136 (by decide +kernel) rfl
theorem ml_X11_312 : Cond.methodLink RX11 312 yX11_areLike ∈ lw_good := sv_mem 1411 (by decide +kernel) rfl
theorem co_X11_areLike : Cond.code yX11_areLike cX11_areLike 5 (some .boolean) ∈ lw_good := sv_mem 1414 (by decide +kernel) rfl
theorem im_X11_areLike : Cond.instanceMethod yX11_areLike ∈ lw_good := sv_mem 1413 (by decide +kernel) rfl
theorem se_X11_areLike : Cond.selects RX11 yX11_areLike yX11_areLike ∈ lw_good := sv_mem 65 (by decide +kernel) rfl
set_option maxHeartbeats 4000000 in
set_option maxRecDepth 100000 in
theorem sf_X11_unlike (l : Launch) (g : sv_G) (A : Nat → Prop) (ty : Nat → Nat) (σ : Nat → Nat → Int) (hok : sv_ok ty σ) (hTA : ∀ q, ty q ≠ 0 → A q) (hI : sv_inv sp_1 ty σ) (a : Nat) (k_a : ty a = 10) (ar1 : Int) (h_ar1 : (-2147483648) ≤ ar1 ∧ ar1 ≤ 2147483647) (ar2 : Int) (h_ar2 : (-2147483648) ≤ ar2 ∧ ar2 ≤ 2147483647) (ar3 : Int) (h_ar3 : (-2147483648) ≤ ar3 ∧ ar3 ≤ 2147483647) : sv_M l yX11_unlike cX11_unlike 6 (some .int) { frames := 6, cells := 0, slots := 0, locals := 138 } g A ty σ [sv_r a, sv_i ar1, sv_i ar2, sv_i ar3] (fun r σ' => (∃ rv : Int, r = [sv_i rv] ∧ ((-2147483648) ≤ rv ∧ rv ≤ 2147483647)) ∧ sv_inv sp_1 ty σ' ∧ sv_ofx [] [88, 89, 90, 91, 92] ty σ σ') := by
  refine sv_enter (by decide) (Nat.le_of_ble_eq_true rfl) ?_
  intro p e s m args below meth c C hr
  have C : sv_C g A RX11 cX11_unlike 6 p s m args meth c := C
  have hr : meth.sig.returnType = (some .int) := hr
  have hF : sv_ofx [] [88, 89, 90, 91, 92] ty σ σ := sv_ofx.rf
  refine sv_same (st2 := []) (lv2 := [(0, sv_r a), (1, sv_i ar1), (2, sv_i ar2), (3, sv_i ar3)]) rfl rfl ?_
  refine sv_go C.1 C.2.1 [(.iload_n 1, 1)] (pc' := 1) (by decide +kernel) rfl (lv' := [(0, sv_r a), (1, sv_i ar1), (2, sv_i ar2), (3, sv_i ar3)]) (st' := [sv_i ar1]) rfl ?_
  refine sv_cs C (index := 277) (k := 1) (rest := []) (by decide +kernel) (sf_X11_isPlace l g A ty σ hok hTA hI (ar1) ⟨by omega, by omega⟩) ⟨co_X11_isPlace, in_X11, ⟨by decide, by decide, by decide +kernel⟩, Nat.le_of_ble_eq_true rfl, Nat.le_of_ble_eq_true rfl⟩ ml_X11_277 st_X11_isPlace rfl rfl (Nat.le_of_ble_eq_true rfl) ⟨Nat.zero_le _, Nat.zero_le _⟩ (fun r2 σ3 hpo1 hok4 => ?_)
  obtain ⟨rfl, ⟨vu5, rfl, hvu5, ivu5_0⟩⟩ := hpo1
  refine sv_same (st2 := [sv_i vu5]) (lv2 := [(0, sv_r a), (1, sv_i ar1), (2, sv_i ar2), (3, sv_i ar3)]) rfl rfl ?_
  refine sv_if C.1 C.2.1 (cnd := .eq) (off := 17) (tgt := 21) (by decide +kernel) (by decide) ⟨by omega, by omega⟩ (fun (h6 : vu5 = 0) => ?_) (fun (h6 : ¬ (vu5 = 0)) => ?_)
  · refine sv_go C.1 C.2.1 [(.bipush (-2), 2)] (pc' := 23) (by decide +kernel) rfl (lv' := [(0, sv_r a), (1, sv_i ar1), (2, sv_i ar2), (3, sv_i ar3)]) (st' := [sv_i ((-2))]) rfl ?_
    exact sv_iret C hr (by decide +kernel) hok4 (⟨⟨_, rfl, ⟨by omega, by omega⟩⟩, hI, hF⟩)
  · have hp7 := ivu5_0 (by omega) (by omega)
    refine sv_go C.1 C.2.1 [(.iload_n 2, 1)] (pc' := 8) (by decide +kernel) rfl (lv' := [(0, sv_r a), (1, sv_i ar1), (2, sv_i ar2), (3, sv_i ar3)]) (st' := [sv_i ar2]) rfl ?_
    refine sv_cs C (index := 277) (k := 1) (rest := []) (by decide +kernel) (sf_X11_isPlace l g A ty σ hok4 hTA hI (ar2) ⟨by omega, by omega⟩) ⟨co_X11_isPlace, in_X11, ⟨by decide, by decide, by decide +kernel⟩, Nat.le_of_ble_eq_true rfl, Nat.le_of_ble_eq_true rfl⟩ ml_X11_277 st_X11_isPlace rfl rfl (Nat.le_of_ble_eq_true rfl) ⟨Nat.zero_le _, Nat.zero_le _⟩ (fun r9 σ10 hpo8 hok11 => ?_)
    obtain ⟨rfl, ⟨vu12, rfl, hvu12, ivu12_0⟩⟩ := hpo8
    refine sv_same (st2 := [sv_i vu12]) (lv2 := [(0, sv_r a), (1, sv_i ar1), (2, sv_i ar2), (3, sv_i ar3)]) rfl rfl ?_
    refine sv_if C.1 C.2.1 (cnd := .eq) (off := 10) (tgt := 21) (by decide +kernel) (by decide) ⟨by omega, by omega⟩ (fun (h13 : vu12 = 0) => ?_) (fun (h13 : ¬ (vu12 = 0)) => ?_)
    · refine sv_go C.1 C.2.1 [(.bipush (-2), 2)] (pc' := 23) (by decide +kernel) rfl (lv' := [(0, sv_r a), (1, sv_i ar1), (2, sv_i ar2), (3, sv_i ar3)]) (st' := [sv_i ((-2))]) rfl ?_
      exact sv_iret C hr (by decide +kernel) hok11 (⟨⟨_, rfl, ⟨by omega, by omega⟩⟩, hI, hF⟩)
    · have hp14 := ivu12_0 (by omega) (by omega)
      refine sv_go C.1 C.2.1 [(.iload_n 3, 1)] (pc' := 15) (by decide +kernel) rfl (lv' := [(0, sv_r a), (1, sv_i ar1), (2, sv_i ar2), (3, sv_i ar3)]) (st' := [sv_i ar3]) rfl ?_
      refine sv_cs C (index := 13) (k := 1) (rest := []) (by decide +kernel) (ct_X11_isYear l g A ty σ hok11 (ar3) ⟨by omega, by omega⟩) ⟨co_X11_isYear, in_X11, ⟨by decide, by decide, by decide +kernel⟩, Nat.le_of_ble_eq_true rfl, Nat.le_of_ble_eq_true rfl⟩ ml_X11_13 st_X11_isYear rfl rfl (Nat.le_of_ble_eq_true rfl) ⟨Nat.zero_le _, Nat.zero_le _⟩ (fun r16 σ17 hpo15 hok18 => ?_)
      obtain ⟨rfl, ⟨h19, rfl⟩ | ⟨h19, rfl⟩⟩ := hpo15
      · refine sv_same (st2 := [sv_i 1]) (lv2 := [(0, sv_r a), (1, sv_i ar1), (2, sv_i ar2), (3, sv_i ar3)]) rfl rfl ?_
        refine sv_if_t C.1 C.2.1 (cnd := .ne) (off := 6) (tgt := 24) (by decide +kernel) (by decide) ⟨by omega, by omega⟩ (show 1 ≠ 0 by omega) ?_
        refine sv_go C.1 C.2.1 [(.aload_n 0, 1), (.iload_n 2, 1), (.iload_n 3, 1)] (pc' := 27) (by decide +kernel) rfl (lv' := [(0, sv_r a), (1, sv_i ar1), (2, sv_i ar2), (3, sv_i ar3)]) (st' := [sv_i ar3, sv_i ar2, sv_r a]) rfl ?_
        refine sv_cv C (index := 301) (k := 2) (rest := []) (ci := 10) (r := (RX11, TX11, 47)) (by decide +kernel) (sf_X11_lead l g A ty σ hok18 hTA hI a k_a (ar2) ⟨by omega, by omega⟩ (ar3) ⟨by omega, by omega⟩) ⟨co_X11_lead, in_X11, ⟨by decide, by decide, by decide +kernel⟩, Nat.le_of_ble_eq_true rfl, Nat.le_of_ble_eq_true rfl⟩ ml_X11_301 im_X11_lead se_X11_lead (by rw [k_a]; rfl) rfl rfl rfl (Nat.le_of_ble_eq_true rfl) ⟨Nat.zero_le _, Nat.zero_le _⟩ (fun r21 σ22 hpo20 hok23 => ?_)
        obtain ⟨rfl, hIu24, hFu24⟩ := hpo20
        have hGu24 := hF.tr hFu24 (by decide) (by decide)
        refine sv_same (st2 := []) (lv2 := [(0, sv_r a), (1, sv_i ar1), (2, sv_i ar2), (3, sv_i ar3)]) rfl rfl ?_
        refine sv_go C.1 C.2.1 [(.iconst 0, 1), (.istore 4, 2)] (pc' := 33) (by decide +kernel) rfl (lv' := [(0, sv_r a), (1, sv_i ar1), (2, sv_i ar2), (3, sv_i ar3), (4, sv_i 0)]) (st' := []) rfl ?_
        have L27 : ∀ (n : Nat) (Xg25_l4 : Int) (σ26 : Nat → Nat → Int), (0 ≤ Xg25_l4 ∧ Xg25_l4 ≤ 366) → (sv_ok ty σ26) → (sv_inv sp_1 ty σ26) → (sv_ofx [] [88, 89, 90, 91, 92] ty σ σ26) → (366 - Xg25_l4) < (n : Int) → sv_E p l e { frames := 6, cells := 0, slots := 0, locals := 138 } s m args below meth c 6 g A ty (fun r σ' => (∃ rv : Int, r = [sv_i rv] ∧ ((-2147483648) ≤ rv ∧ rv ≤ 2147483647)) ∧ sv_inv sp_1 ty σ' ∧ sv_ofx [] [88, 89, 90, 91, 92] ty σ σ') σ26 33 [(0, sv_r a), (1, sv_i ar1), (2, sv_i ar2), (3, sv_i ar3), (4, sv_i Xg25_l4)] [] := by
          intro n
          induction n with
          | zero => intro Xg25_l4 σ26 hXg25_l4 okσ26 Iσ26 Fσ26 hmu; exact absurd hmu (by omega)
          | succ n ih28 =>
            intro Xg25_l4 σ26 hXg25_l4 okσ26 Iσ26 Fσ26 hmu
            refine sv_go C.1 C.2.1 [(.iload 4, 2), (.iload_n 3, 1)] (pc' := 36) (by decide +kernel) rfl (lv' := [(0, sv_r a), (1, sv_i ar1), (2, sv_i ar2), (3, sv_i ar3), (4, sv_i Xg25_l4)]) (st' := [sv_i ar3, sv_i Xg25_l4]) rfl ?_
            refine sv_cs C (index := 16) (k := 1) (rest := [sv_i Xg25_l4]) (by decide +kernel) (ct_X11_daysOf l g A ty σ26 okσ26 (ar3) ⟨by omega, by omega⟩) ⟨co_X11_daysOf, in_X11, ⟨by decide, by decide, by decide +kernel⟩, Nat.le_of_ble_eq_true rfl, Nat.le_of_ble_eq_true rfl⟩ ml_X11_16 st_X11_daysOf rfl rfl (Nat.le_of_ble_eq_true rfl) ⟨Nat.zero_le _, Nat.zero_le _⟩ (fun r30 σ31 hpo29 hok32 => ?_)
            obtain ⟨rfl, rfl⟩ := hpo29
            have hn34 := dy_lp_in ar3
            refine sv_same (st2 := [sv_i (365 + dy_lp ar3), sv_i Xg25_l4]) (lv2 := [(0, sv_r a), (1, sv_i ar1), (2, sv_i ar2), (3, sv_i ar3), (4, sv_i Xg25_l4)]) rfl rfl ?_
            refine sv_icmp C.1 C.2.1 (cnd := .ge) (off := 23) (tgt := 62) (by decide +kernel) (by decide) ⟨by omega, by omega⟩ ⟨by omega, by omega⟩ (fun (h35 : (365 + dy_lp ar3) ≤ Xg25_l4) => ?_) (fun (h35 : ¬ ((365 + dy_lp ar3) ≤ Xg25_l4)) => ?_)
            · refine sv_go C.1 C.2.1 [(.aload_n 0, 1), (.iload_n 1, 1), (.iload_n 3, 1)] (pc' := 65) (by decide +kernel) rfl (lv' := [(0, sv_r a), (1, sv_i ar1), (2, sv_i ar2), (3, sv_i ar3), (4, sv_i Xg25_l4)]) (st' := [sv_i ar3, sv_i ar1, sv_r a]) rfl ?_
              refine sv_cv C (index := 301) (k := 2) (rest := []) (ci := 10) (r := (RX11, TX11, 47)) (by decide +kernel) (sf_X11_lead l g A ty σ26 hok32 hTA Iσ26 a k_a (ar1) ⟨by omega, by omega⟩ (ar3) ⟨by omega, by omega⟩) ⟨co_X11_lead, in_X11, ⟨by decide, by decide, by decide +kernel⟩, Nat.le_of_ble_eq_true rfl, Nat.le_of_ble_eq_true rfl⟩ ml_X11_301 im_X11_lead se_X11_lead (by rw [k_a]; rfl) rfl rfl rfl (Nat.le_of_ble_eq_true rfl) ⟨Nat.zero_le _, Nat.zero_le _⟩ (fun r37 σ38 hpo36 hok39 => ?_)
              obtain ⟨rfl, hIu40, hFu40⟩ := hpo36
              have hGu40 := Fσ26.tr hFu40 (by decide) (by decide)
              refine sv_same (st2 := []) (lv2 := [(0, sv_r a), (1, sv_i ar1), (2, sv_i ar2), (3, sv_i ar3), (4, sv_i Xg25_l4)]) rfl rfl ?_
              refine sv_go C.1 C.2.1 [(.iconst 0, 1), (.istore 4, 2), (.iconst 0, 1), (.istore 5, 2)] (pc' := 74) (by decide +kernel) rfl (lv' := [(0, sv_r a), (1, sv_i ar1), (2, sv_i ar2), (3, sv_i ar3), (4, sv_i 0), (5, sv_i 0)]) (st' := []) rfl ?_
              have L42 : ∀ (n : Nat) (Xg41_l4 : Int) (Xg41_l5 : Int), ((-2147483648) ≤ Xg41_l4 ∧ Xg41_l4 ≤ 2147483647) → (0 ≤ Xg41_l5 ∧ Xg41_l5 ≤ 366) → (366 - Xg41_l5) < (n : Int) → sv_E p l e { frames := 6, cells := 0, slots := 0, locals := 138 } s m args below meth c 6 g A ty (fun r σ' => (∃ rv : Int, r = [sv_i rv] ∧ ((-2147483648) ≤ rv ∧ rv ≤ 2147483647)) ∧ sv_inv sp_1 ty σ' ∧ sv_ofx [] [88, 89, 90, 91, 92] ty σ σ') σ38 74 [(0, sv_r a), (1, sv_i ar1), (2, sv_i ar2), (3, sv_i ar3), (4, sv_i Xg41_l4), (5, sv_i Xg41_l5)] [] := by
                intro n
                induction n with
                | zero => intro Xg41_l4 Xg41_l5 hXg41_l4 hXg41_l5 hmu; exact absurd hmu (by omega)
                | succ n ih43 =>
                  intro Xg41_l4 Xg41_l5 hXg41_l4 hXg41_l5 hmu
                  refine sv_go C.1 C.2.1 [(.iload 5, 2), (.iload_n 3, 1)] (pc' := 77) (by decide +kernel) rfl (lv' := [(0, sv_r a), (1, sv_i ar1), (2, sv_i ar2), (3, sv_i ar3), (4, sv_i Xg41_l4), (5, sv_i Xg41_l5)]) (st' := [sv_i ar3, sv_i Xg41_l5]) rfl ?_
                  refine sv_cs C (index := 16) (k := 1) (rest := [sv_i Xg41_l5]) (by decide +kernel) (ct_X11_daysOf l g A ty σ38 hok39 (ar3) ⟨by omega, by omega⟩) ⟨co_X11_daysOf, in_X11, ⟨by decide, by decide, by decide +kernel⟩, Nat.le_of_ble_eq_true rfl, Nat.le_of_ble_eq_true rfl⟩ ml_X11_16 st_X11_daysOf rfl rfl (Nat.le_of_ble_eq_true rfl) ⟨Nat.zero_le _, Nat.zero_le _⟩ (fun r45 σ46 hpo44 hok47 => ?_)
                  obtain ⟨rfl, rfl⟩ := hpo44
                  have hn49 := dy_lp_in ar3
                  refine sv_same (st2 := [sv_i (365 + dy_lp ar3), sv_i Xg41_l5]) (lv2 := [(0, sv_r a), (1, sv_i ar1), (2, sv_i ar2), (3, sv_i ar3), (4, sv_i Xg41_l4), (5, sv_i Xg41_l5)]) rfl rfl ?_
                  refine sv_icmp C.1 C.2.1 (cnd := .ge) (off := 42) (tgt := 122) (by decide +kernel) (by decide) ⟨by omega, by omega⟩ ⟨by omega, by omega⟩ (fun (h50 : (365 + dy_lp ar3) ≤ Xg41_l5) => ?_) (fun (h50 : ¬ ((365 + dy_lp ar3) ≤ Xg41_l5)) => ?_)
                  · refine sv_go C.1 C.2.1 [(.iload 4, 2)] (pc' := 124) (by decide +kernel) rfl (lv' := [(0, sv_r a), (1, sv_i ar1), (2, sv_i ar2), (3, sv_i ar3), (4, sv_i Xg41_l4), (5, sv_i Xg41_l5)]) (st' := [sv_i Xg41_l4]) rfl ?_
                    exact sv_iret C hr (by decide +kernel) hok47 (⟨⟨_, rfl, ⟨by omega, by omega⟩⟩, hIu40, hGu40⟩)
                  · refine sv_go C.1 C.2.1 [(.iload 4, 2), (.aload_n 0, 1), (.iload_n 1, 1), (.aload_n 0, 1)] (pc' := 88) (by decide +kernel) rfl (lv' := [(0, sv_r a), (1, sv_i ar1), (2, sv_i ar2), (3, sv_i ar3), (4, sv_i Xg41_l4), (5, sv_i Xg41_l5)]) (st' := [sv_r a, sv_i ar1, sv_r a, sv_i Xg41_l4]) rfl ?_
                    obtain ⟨v51, ev51, kv51⟩ := hIu40.ref (k := 31) k_a rfl
                    refine sv_gf C (index := 121) (ci := 10) (k := 31) (r := (RX11, TX11, 47)) (v := sv_r v51) (by decide +kernel) (by rw [k_a]; rfl) rfl (by decide) fl_X11_121 (congrArg sv_a ev51) ?_
                    refine sv_go C.1 C.2.1 [(.iload 5, 2)] (pc' := 93) (by decide +kernel) rfl (lv' := [(0, sv_r a), (1, sv_i ar1), (2, sv_i ar2), (3, sv_i ar3), (4, sv_i Xg41_l4), (5, sv_i Xg41_l5)]) (st' := [sv_i Xg41_l5, sv_r v51, sv_i ar1, sv_r a, sv_i Xg41_l4]) rfl ?_
                    refine sv_ia C (n := 366) (by decide +kernel) (by rw [kv51]; rfl) (by decide) (by omega) (by omega) ?_
                    obtain ⟨v52, ev52, hv52⟩ := sv_rdn hIu40 (k := (Xg41_l5 : Int).toNat) kv51 rfl
                    rw [ev52]
                    refine sv_go C.1 C.2.1 [(.iload_n 2, 1), (.aload_n 0, 1)] (pc' := 96) (by decide +kernel) rfl (lv' := [(0, sv_r a), (1, sv_i ar1), (2, sv_i ar2), (3, sv_i ar3), (4, sv_i Xg41_l4), (5, sv_i Xg41_l5)]) (st' := [sv_r a, sv_i ar2, sv_i v52, sv_i ar1, sv_r a, sv_i Xg41_l4]) rfl ?_
                    obtain ⟨v53, ev53, kv53⟩ := hIu40.ref (k := 32) k_a rfl
                    refine sv_gf C (index := 124) (ci := 10) (k := 32) (r := (RX11, TX11, 47)) (v := sv_r v53) (by decide +kernel) (by rw [k_a]; rfl) rfl (by decide) fl_X11_124 (congrArg sv_a ev53) ?_
                    refine sv_go C.1 C.2.1 [(.iload 5, 2)] (pc' := 101) (by decide +kernel) rfl (lv' := [(0, sv_r a), (1, sv_i ar1), (2, sv_i ar2), (3, sv_i ar3), (4, sv_i Xg41_l4), (5, sv_i Xg41_l5)]) (st' := [sv_i Xg41_l5, sv_r v53, sv_i ar2, sv_i v52, sv_i ar1, sv_r a, sv_i Xg41_l4]) rfl ?_
                    refine sv_ia C (n := 366) (by decide +kernel) (by rw [kv53]; rfl) (by decide) (by omega) (by omega) ?_
                    obtain ⟨v54, ev54, hv54⟩ := sv_rdn hIu40 (k := (Xg41_l5 : Int).toNat) kv53 rfl
                    rw [ev54]
                    refine sv_cv C (index := 312) (k := 4) (rest := [sv_i Xg41_l4]) (ci := 10) (r := (RX11, TX11, 47)) (by decide +kernel) (sf_X11_areLike l g A ty σ38 hok47 hTA hIu40 a k_a (ar1) ⟨by omega, by omega⟩ (v52) ⟨by omega, by omega⟩ (ar2) ⟨by omega, by omega⟩ (v54) ⟨by omega, by omega⟩) ⟨co_X11_areLike, in_X11, ⟨by decide, by decide, by decide +kernel⟩, Nat.le_of_ble_eq_true rfl, Nat.le_of_ble_eq_true rfl⟩ ml_X11_312 im_X11_areLike se_X11_areLike (by rw [k_a]; rfl) rfl rfl rfl (Nat.le_of_ble_eq_true rfl) ⟨Nat.zero_le _, Nat.zero_le _⟩ (fun r56 σ57 hpo55 hok58 => ?_)
                    obtain ⟨rfl, ⟨vu59, rfl, hvu59⟩⟩ := hpo55
                    refine sv_same (st2 := [sv_i vu59, sv_i Xg41_l4]) (lv2 := [(0, sv_r a), (1, sv_i ar1), (2, sv_i ar2), (3, sv_i ar3), (4, sv_i Xg41_l4), (5, sv_i Xg41_l5)]) rfl rfl ?_
                    have J62 : ∀ (Jg61_s0 : Int), (0 ≤ Jg61_s0 ∧ Jg61_s0 ≤ 1) → sv_E p l e { frames := 6, cells := 0, slots := 0, locals := 138 } s m args below meth c 6 g A ty (fun r σ' => (∃ rv : Int, r = [sv_i rv] ∧ ((-2147483648) ≤ rv ∧ rv ≤ 2147483647)) ∧ sv_inv sp_1 ty σ' ∧ sv_ofx [] [88, 89, 90, 91, 92] ty σ σ') σ38 113 [(0, sv_r a), (1, sv_i ar1), (2, sv_i ar2), (3, sv_i ar3), (5, sv_i Xg41_l5)] [sv_i Jg61_s0, sv_i Xg41_l4] := by
                      intro Jg61_s0 hJg61_s0
                      refine sv_go C.1 C.2.1 [(.iadd, 1), (.istore 4, 2), (.iinc 5 1, 3)] (pc' := 119) (by decide +kernel) rfl (lv' := [(0, sv_r a), (1, sv_i ar1), (2, sv_i ar2), (3, sv_i ar3), (4, sv_i (Xg41_l4 + Jg61_s0)), (5, sv_i (Xg41_l5 + 1))]) (st' := []) rfl ?_
                      refine sv_goto C.1 C.2.1 (off := (-45)) (tgt := 74) (by decide +kernel) (by decide) ?_
                      obtain ⟨w63, hw63, ew63⟩ := sv_wr (Xg41_l4 + Jg61_s0)
                      refine sv_sameD (st2 := []) (lv2 := [(0, sv_r a), (1, sv_i ar1), (2, sv_i ar2), (3, sv_i ar3), (4, sv_i w63), (5, sv_i (Xg41_l5 + 1))]) (by simp only [List.map_cons, List.map_nil, sv_den_i, ew63]) (by simp only [sv_lm, List.map_cons, List.map_nil, sv_den_i, ew63]) ?_
                      exact ih43 w63 (Xg41_l5 + 1) ⟨by omega, by omega⟩ ⟨by omega, by omega⟩ (by omega)
                    refine sv_if C.1 C.2.1 (cnd := .eq) (off := 7) (tgt := 112) (by decide +kernel) (by decide) ⟨by omega, by omega⟩ (fun (h60 : vu59 = 0) => ?_) (fun (h60 : ¬ (vu59 = 0)) => ?_)
                    · refine sv_go C.1 C.2.1 [(.iconst 1, 1)] (pc' := 113) (by decide +kernel) rfl (lv' := [(0, sv_r a), (1, sv_i ar1), (2, sv_i ar2), (3, sv_i ar3), (4, sv_i Xg41_l4), (5, sv_i Xg41_l5)]) (st' := [sv_i 1, sv_i Xg41_l4]) rfl ?_
                      refine sv_pick [0, 1, 2, 3, 5] (lv2 := [(0, sv_r a), (1, sv_i ar1), (2, sv_i ar2), (3, sv_i ar3), (5, sv_i Xg41_l5)]) rfl ?_
                      exact J62 1 ⟨by omega, by omega⟩
                    · refine sv_go C.1 C.2.1 [(.iconst 0, 1)] (pc' := 109) (by decide +kernel) rfl (lv' := [(0, sv_r a), (1, sv_i ar1), (2, sv_i ar2), (3, sv_i ar3), (4, sv_i Xg41_l4), (5, sv_i Xg41_l5)]) (st' := [sv_i 0, sv_i Xg41_l4]) rfl ?_
                      refine sv_goto C.1 C.2.1 (off := 4) (tgt := 113) (by decide +kernel) (by decide) ?_
                      refine sv_pick [0, 1, 2, 3, 5] (lv2 := [(0, sv_r a), (1, sv_i ar1), (2, sv_i ar2), (3, sv_i ar3), (5, sv_i Xg41_l5)]) rfl ?_
                      exact J62 0 ⟨by omega, by omega⟩
              exact L42 (((366 - 0 : Int)).toNat + 1) 0 0 ⟨by omega, by omega⟩ ⟨by omega, by omega⟩ (by omega)
            · refine sv_go C.1 C.2.1 [(.aload_n 0, 1)] (pc' := 43) (by decide +kernel) rfl (lv' := [(0, sv_r a), (1, sv_i ar1), (2, sv_i ar2), (3, sv_i ar3), (4, sv_i Xg25_l4)]) (st' := [sv_r a]) rfl ?_
              obtain ⟨v64, ev64, kv64⟩ := Iσ26.ref (k := 32) k_a rfl
              refine sv_gf C (index := 124) (ci := 10) (k := 32) (r := (RX11, TX11, 47)) (v := sv_r v64) (by decide +kernel) (by rw [k_a]; rfl) rfl (by decide) fl_X11_124 (congrArg sv_a ev64) ?_
              refine sv_go C.1 C.2.1 [(.iload 4, 2), (.aload_n 0, 1)] (pc' := 49) (by decide +kernel) rfl (lv' := [(0, sv_r a), (1, sv_i ar1), (2, sv_i ar2), (3, sv_i ar3), (4, sv_i Xg25_l4)]) (st' := [sv_r a, sv_i Xg25_l4, sv_r v64]) rfl ?_
              obtain ⟨v65, ev65, kv65⟩ := Iσ26.ref (k := 31) k_a rfl
              refine sv_gf C (index := 121) (ci := 10) (k := 31) (r := (RX11, TX11, 47)) (v := sv_r v65) (by decide +kernel) (by rw [k_a]; rfl) rfl (by decide) fl_X11_121 (congrArg sv_a ev65) ?_
              refine sv_go C.1 C.2.1 [(.iload 4, 2)] (pc' := 54) (by decide +kernel) rfl (lv' := [(0, sv_r a), (1, sv_i ar1), (2, sv_i ar2), (3, sv_i ar3), (4, sv_i Xg25_l4)]) (st' := [sv_i Xg25_l4, sv_r v65, sv_i Xg25_l4, sv_r v64]) rfl ?_
              refine sv_ia C (n := 366) (by decide +kernel) (by rw [kv65]; rfl) (by decide) (by omega) (by omega) ?_
              obtain ⟨v66, ev66, hv66⟩ := sv_rdn Iσ26 (k := (Xg25_l4 : Int).toNat) kv65 rfl
              rw [ev66]
              refine sv_is C (n := 366) (by decide +kernel) (by rw [kv64]; rfl) (by decide) (by omega) (by omega) ⟨by omega, by omega⟩ (hTA _ (by rw [kv64]; decide)) hok32 (fun hok67 => ?_)
              have hI69 := Iσ26.up (a := v64) (k := (Xg25_l4 : Int).toNat) (z := v66) (by rw [kv64]; exact ⟨by omega, by omega⟩)
              have hF70 := Fσ26.up (a := v64) (k := (Xg25_l4 : Int).toNat) (z := v66) (Or.inl (by rw [kv64]; decide))
              generalize eσ68 : sv_up σ26 v64 (Xg25_l4 : Int).toNat v66 = σ68 at hok67 hI69 hF70 ⊢
              have t71 : σ68 a 32 = (v64 : Int) + 1 := by rw [← eσ68, sv_up_a (sv_ne k_a kv64 (by decide))]; exact ev64
              have t72 : σ68 a 31 = (v65 : Int) + 1 := by rw [← eσ68, sv_up_a (sv_ne k_a kv64 (by decide))]; exact ev65
              have t73 : σ68 v65 (Xg25_l4 : Int).toNat = v66 := by rw [← eσ68, sv_up_a (sv_ne kv65 kv64 (by decide))]; exact ev66
              have t74 : σ68 v64 (Xg25_l4 : Int).toNat = v66 := by rw [← eσ68]; exact sv_up_s _ _ _ _
              refine sv_go C.1 C.2.1 [(.iinc 4 1, 3)] (pc' := 59) (by decide +kernel) rfl (lv' := [(0, sv_r a), (1, sv_i ar1), (2, sv_i ar2), (3, sv_i ar3), (4, sv_i (Xg25_l4 + 1))]) (st' := []) rfl ?_
              refine sv_goto C.1 C.2.1 (off := (-26)) (tgt := 33) (by decide +kernel) (by decide) ?_
              exact ih28 (Xg25_l4 + 1) σ68 ⟨by omega, by omega⟩ hok67 hI69 hF70 (by omega)
        exact L27 (((366 - 0 : Int)).toNat + 1) 0 σ22 ⟨by omega, by omega⟩ hok23 hIu24 hGu24 (by omega)
      · refine sv_same (st2 := [sv_i 0]) (lv2 := [(0, sv_r a), (1, sv_i ar1), (2, sv_i ar2), (3, sv_i ar3)]) rfl rfl ?_
        refine sv_if_f C.1 C.2.1 (cnd := .ne) (off := 6) (tgt := 24) (by decide +kernel) (by decide) ⟨by omega, by omega⟩ (show ¬ (0 ≠ 0) by omega) ?_
        refine sv_go C.1 C.2.1 [(.bipush (-2), 2)] (pc' := 23) (by decide +kernel) rfl (lv' := [(0, sv_r a), (1, sv_i ar1), (2, sv_i ar2), (3, sv_i ar3)]) (st' := [sv_i ((-2))]) rfl ?_
        exact sv_iret C hr (by decide +kernel) hok18 (⟨⟨_, rfl, ⟨by omega, by omega⟩⟩, hI, hF⟩)
