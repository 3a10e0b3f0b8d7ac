def zq_im (P : Prop) : Prop := P
theorem zq_mk {P : Prop} (h : P) : zq_im P := h
theorem zq_un {P : Prop} (h : zq_im P) : P := h

theorem ml_X11_196 : Cond.methodLink RX11 196 yJ0_length_8abf5 ∈ lw_good := sv_mem 1297 (by decide +kernel) rfl
theorem ml_X11_202 : Cond.methodLink RX11 202 yJ0_charAt_5068e ∈ lw_good := sv_mem 1298 (by decide +kernel) rfl
set_option maxHeartbeats 4000000 in
set_option maxRecDepth 100000 in
theorem sf_X11_is (l : Launch) (g : sv_G) (A : Nat → Prop) (ty : Nat → Nat) (σ : Nat → Nat → Int) (hok : sv_ok ty σ) (hTA : ∀ q, ty q ≠ 0 → A q) (hI : sv_inv sp_1 ty σ) (a : Nat) (k_a : ty a = 10) (w : Nat) (h_w : w < 23) (n18 : Int) (h_n18 : 0 ≤ n18 ∧ n18 ≤ 4000) (b1 : Int) (h_b1 : 0 ≤ b1 ∧ b1 ≤ 4000) (b2 : Int) (h_b2 : 0 ≤ b2 ∧ b2 ≤ 4000) (hh : Int) (h_hh : 0 ≤ hh ∧ hh ≤ 4) (e18 : σ a 18 = n18) (e19 : σ a 19 = b1) (e20 : σ a 20 = b2) (e21 : σ a 21 = hh) (hJ1 : b1 ≤ b2 ∧ b2 ≤ n18) (hJ2 : hh = 0 ∨ b1 < b2) (hJ3 : hh ≠ 1 ∨ b2 ≤ b1 + 12) : sv_M l yX11_is cX11_is 4 (some .boolean) { frames := 4, cells := 0, slots := 0, locals := 85 } g A ty σ [sv_r a, sv_r (g.2.2.2.2.1 w)] (fun r σ' => σ = σ' ∧ ∃ rv : Int, r = [sv_i rv] ∧ (0 ≤ rv ∧ rv ≤ 1) ∧ (1 ≤ rv → rv ≤ 1 → hh = 1)) := by
  refine sv_enter (by decide) (Nat.le_of_ble_eq_true rfl) ?_
  intro p e s m args below meth c C hr
  have C : sv_C g A RX11 cX11_is 4 p s m args meth c := C
  have hr : meth.sig.returnType = (some .boolean) := hr
  have hF : sv_ofx [] [] ty σ σ := sv_ofx.rf
  refine sv_same (st2 := []) (lv2 := [(0, sv_r a), (1, sv_r (g.2.2.2.2.1 w))]) rfl rfl ?_
  refine sv_go C.1 C.2.1 [(.aload_n 0, 1)] (pc' := 1) (by decide +kernel) rfl (lv' := [(0, sv_r a), (1, sv_r (g.2.2.2.2.1 w))]) (st' := [sv_r a]) rfl ?_
  refine sv_gf C (index := 184) (ci := 10) (k := 21) (r := (RX11, TX11, 47)) (v := sv_i hh) (by decide +kernel) (by rw [k_a]; rfl) rfl (by decide) fl_X11_184 (congrArg sv_i e21) ?_
  refine sv_go C.1 C.2.1 [(.iconst 1, 1)] (pc' := 5) (by decide +kernel) rfl (lv' := [(0, sv_r a), (1, sv_r (g.2.2.2.2.1 w))]) (st' := [sv_i 1, sv_i hh]) rfl ?_
  refine sv_icmp C.1 C.2.1 (cnd := .ne) (off := 23) (tgt := 28) (by decide +kernel) (by decide) ⟨by omega, by omega⟩ ⟨by omega, by omega⟩ (fun (h1 : hh ≠ 1) => ?_) (fun (h1 : ¬ (hh ≠ 1)) => ?_)
  · refine sv_go C.1 C.2.1 [(.iconst 0, 1), (.istore_n 2, 1), (.iconst 0, 1), (.istore_n 3, 1)] (pc' := 32) (by decide +kernel) rfl (lv' := [(0, sv_r a), (1, sv_r (g.2.2.2.2.1 w)), (2, sv_i 0), (3, sv_i 0)]) (st' := []) rfl ?_
    have L3 : ∀ (n : Nat) (Xg2_l2 : Int) (Xg2_l3 : Int), (0 ≤ Xg2_l2 ∧ Xg2_l2 ≤ 0) → (0 ≤ Xg2_l3 ∧ Xg2_l3 ≤ 0) → (Xg2_l2 = 0 ∨ (hh = 1 ∧ b2 = b1 + (sq_n w : Int))) → (0) < (n : Int) → sv_E p l e { frames := 4, cells := 0, slots := 0, locals := 85 } s m args below meth c 4 g A ty (fun r σ' => σ = σ' ∧ ∃ rv : Int, r = [sv_i rv] ∧ (0 ≤ rv ∧ rv ≤ 1) ∧ (1 ≤ rv → rv ≤ 1 → hh = 1)) σ 32 [(0, sv_r a), (1, sv_r (g.2.2.2.2.1 w)), (2, sv_i Xg2_l2), (3, sv_i Xg2_l3)] [] := by
      intro n
      induction n with
      | zero => intro Xg2_l2 Xg2_l3 hXg2_l2 hXg2_l3 hq hmu; exact absurd hmu (by omega)
      | succ n ih4 =>
        intro Xg2_l2 Xg2_l3 hXg2_l2 hXg2_l3 hq hmu
        clear hJ2 hJ3
        refine sv_go C.1 C.2.1 [(.iload_n 3, 1), (.aload_n 1, 1)] (pc' := 34) (by decide +kernel) rfl (lv' := [(0, sv_r a), (1, sv_r (g.2.2.2.2.1 w)), (2, sv_i Xg2_l2), (3, sv_i Xg2_l3)]) (st' := [sv_r (g.2.2.2.2.1 w), sv_i Xg2_l3]) rfl ?_
        have hn9 := sq_n_in w
        refine sq_cv C h_w (index := 196) (k := 0) (as := []) (rest := [sv_i Xg2_l3]) (by decide +kernel) (sq_length l g A ty σ hok w h_w) ⟨co_J0_length_8abf5, in_J0, ⟨by decide, by decide, by decide +kernel⟩, Nat.le_of_ble_eq_true rfl, Nat.le_of_ble_eq_true rfl⟩ ml_X11_196 im_J0_length_8abf5 se_J0_length_8abf5 rfl rfl (Nat.le_of_ble_eq_true rfl) ⟨Nat.zero_le _, Nat.zero_le _⟩ (fun r6 σ7 hpo5 hok8 => ?_)
        obtain ⟨rfl, rfl⟩ := hpo5
        refine sv_same (st2 := [sv_i ((sq_n w : Int)), sv_i Xg2_l3]) (lv2 := [(0, sv_r a), (1, sv_r (g.2.2.2.2.1 w)), (2, sv_i Xg2_l2), (3, sv_i Xg2_l3)]) rfl rfl ?_
        refine sv_icmp C.1 C.2.1 (cnd := .ge) (off := 38) (tgt := 75) (by decide +kernel) (by decide) ⟨by omega, by omega⟩ ⟨by omega, by omega⟩ (fun (h10 : ((sq_n w : Int)) ≤ Xg2_l3) => ?_) (fun (h10 : ¬ (((sq_n w : Int)) ≤ Xg2_l3)) => ?_)
        · refine sv_go C.1 C.2.1 [(.iload_n 2, 1)] (pc' := 76) (by decide +kernel) rfl (lv' := [(0, sv_r a), (1, sv_r (g.2.2.2.2.1 w)), (2, sv_i Xg2_l2), (3, sv_i Xg2_l3)]) (st' := [sv_i Xg2_l2]) rfl ?_
          exact sv_zret C hr (by omega) (by decide +kernel) hok8 (⟨rfl, ⟨_, rfl, ⟨by omega, by omega⟩, fun _ _ => (by omega)⟩⟩)
        · refine sv_go C.1 C.2.1 [(.iload_n 2, 1)] (pc' := 41) (by decide +kernel) rfl (lv' := [(0, sv_r a), (1, sv_r (g.2.2.2.2.1 w)), (2, sv_i Xg2_l2), (3, sv_i Xg2_l3)]) (st' := [sv_i Xg2_l2]) rfl ?_
          refine sv_if_t C.1 C.2.1 (cnd := .eq) (off := 34) (tgt := 75) (by decide +kernel) (by decide) ⟨by omega, by omega⟩ (show Xg2_l2 = 0 by omega) ?_
          refine sv_go C.1 C.2.1 [(.iload_n 2, 1)] (pc' := 76) (by decide +kernel) rfl (lv' := [(0, sv_r a), (1, sv_r (g.2.2.2.2.1 w)), (2, sv_i Xg2_l2), (3, sv_i Xg2_l3)]) (st' := [sv_i Xg2_l2]) rfl ?_
          exact sv_zret C hr (by omega) (by decide +kernel) hok8 (⟨rfl, ⟨_, rfl, ⟨by omega, by omega⟩, fun _ _ => (by omega)⟩⟩)
    exact L3 (((0 : Int)).toNat + 1) 0 0 ⟨by omega, by omega⟩ ⟨by omega, by omega⟩ (by omega) (by omega)
  · refine sv_go C.1 C.2.1 [(.aload_n 0, 1)] (pc' := 9) (by decide +kernel) rfl (lv' := [(0, sv_r a), (1, sv_r (g.2.2.2.2.1 w))]) (st' := [sv_r a]) rfl ?_
    refine sv_gf C (index := 178) (ci := 10) (k := 20) (r := (RX11, TX11, 47)) (v := sv_i b2) (by decide +kernel) (by rw [k_a]; rfl) rfl (by decide) fl_X11_178 (congrArg sv_i e20) ?_
    refine sv_go C.1 C.2.1 [(.aload_n 0, 1)] (pc' := 13) (by decide +kernel) rfl (lv' := [(0, sv_r a), (1, sv_r (g.2.2.2.2.1 w))]) (st' := [sv_r a, sv_i b2]) rfl ?_
    refine sv_gf C (index := 172) (ci := 10) (k := 19) (r := (RX11, TX11, 47)) (v := sv_i b1) (by decide +kernel) (by rw [k_a]; rfl) rfl (by decide) fl_X11_172 (congrArg sv_i e19) ?_
    refine sv_go C.1 C.2.1 [(.isub, 1), (.aload_n 1, 1)] (pc' := 18) (by decide +kernel) rfl (lv' := [(0, sv_r a), (1, sv_r (g.2.2.2.2.1 w))]) (st' := [sv_r (g.2.2.2.2.1 w), sv_i (b2 - b1)]) rfl ?_
    have hn15 := sq_n_in w
    refine sq_cv C h_w (index := 196) (k := 0) (as := []) (rest := [sv_i (b2 - b1)]) (by decide +kernel) (sq_length l g A ty σ hok w h_w) ⟨co_J0_length_8abf5, in_J0, ⟨by decide, by decide, by decide +kernel⟩, Nat.le_of_ble_eq_true rfl, Nat.le_of_ble_eq_true rfl⟩ ml_X11_196 im_J0_length_8abf5 se_J0_length_8abf5 rfl rfl (Nat.le_of_ble_eq_true rfl) ⟨Nat.zero_le _, Nat.zero_le _⟩ (fun r12 σ13 hpo11 hok14 => ?_)
    obtain ⟨rfl, rfl⟩ := hpo11
    refine sv_same (st2 := [sv_i ((sq_n w : Int)), sv_i (b2 - b1)]) (lv2 := [(0, sv_r a), (1, sv_r (g.2.2.2.2.1 w))]) rfl rfl ?_
    refine sv_icmp C.1 C.2.1 (cnd := .ne) (off := 7) (tgt := 28) (by decide +kernel) (by decide) ⟨by omega, by omega⟩ ⟨by omega, by omega⟩ (fun (h16 : (b2 - b1) ≠ ((sq_n w : Int))) => ?_) (fun (h16 : ¬ ((b2 - b1) ≠ ((sq_n w : Int)))) => ?_)
    · refine sv_go C.1 C.2.1 [(.iconst 0, 1), (.istore_n 2, 1), (.iconst 0, 1), (.istore_n 3, 1)] (pc' := 32) (by decide +kernel) rfl (lv' := [(0, sv_r a), (1, sv_r (g.2.2.2.2.1 w)), (2, sv_i 0), (3, sv_i 0)]) (st' := []) rfl ?_
      have L18 : ∀ (n : Nat) (Xg17_l2 : Int) (Xg17_l3 : Int), (0 ≤ Xg17_l2 ∧ Xg17_l2 ≤ 0) → (0 ≤ Xg17_l3 ∧ Xg17_l3 ≤ 0) → (Xg17_l2 = 0 ∨ (hh = 1 ∧ b2 = b1 + (sq_n w : Int))) → (0) < (n : Int) → sv_E p l e { frames := 4, cells := 0, slots := 0, locals := 85 } s m args below meth c 4 g A ty (fun r σ' => σ = σ' ∧ ∃ rv : Int, r = [sv_i rv] ∧ (0 ≤ rv ∧ rv ≤ 1) ∧ (1 ≤ rv → rv ≤ 1 → hh = 1)) σ 32 [(0, sv_r a), (1, sv_r (g.2.2.2.2.1 w)), (2, sv_i Xg17_l2), (3, sv_i Xg17_l3)] [] := by
        intro n
        induction n with
        | zero => intro Xg17_l2 Xg17_l3 hXg17_l2 hXg17_l3 hq hmu; exact absurd hmu (by omega)
        | succ n ih19 =>
          intro Xg17_l2 Xg17_l3 hXg17_l2 hXg17_l3 hq hmu
          clear hJ2 hJ3
          refine sv_go C.1 C.2.1 [(.iload_n 3, 1), (.aload_n 1, 1)] (pc' := 34) (by decide +kernel) rfl (lv' := [(0, sv_r a), (1, sv_r (g.2.2.2.2.1 w)), (2, sv_i Xg17_l2), (3, sv_i Xg17_l3)]) (st' := [sv_r (g.2.2.2.2.1 w), sv_i Xg17_l3]) rfl ?_
          have hn24 := sq_n_in w
          refine sq_cv C h_w (index := 196) (k := 0) (as := []) (rest := [sv_i Xg17_l3]) (by decide +kernel) (sq_length l g A ty σ hok14 w h_w) ⟨co_J0_length_8abf5, in_J0, ⟨by decide, by decide, by decide +kernel⟩, Nat.le_of_ble_eq_true rfl, Nat.le_of_ble_eq_true rfl⟩ ml_X11_196 im_J0_length_8abf5 se_J0_length_8abf5 rfl rfl (Nat.le_of_ble_eq_true rfl) ⟨Nat.zero_le _, Nat.zero_le _⟩ (fun r21 σ22 hpo20 hok23 => ?_)
          obtain ⟨rfl, rfl⟩ := hpo20
          refine sv_same (st2 := [sv_i ((sq_n w : Int)), sv_i Xg17_l3]) (lv2 := [(0, sv_r a), (1, sv_r (g.2.2.2.2.1 w)), (2, sv_i Xg17_l2), (3, sv_i Xg17_l3)]) rfl rfl ?_
          refine sv_icmp C.1 C.2.1 (cnd := .ge) (off := 38) (tgt := 75) (by decide +kernel) (by decide) ⟨by omega, by omega⟩ ⟨by omega, by omega⟩ (fun (h25 : ((sq_n w : Int)) ≤ Xg17_l3) => ?_) (fun (h25 : ¬ (((sq_n w : Int)) ≤ Xg17_l3)) => ?_)
          · refine sv_go C.1 C.2.1 [(.iload_n 2, 1)] (pc' := 76) (by decide +kernel) rfl (lv' := [(0, sv_r a), (1, sv_r (g.2.2.2.2.1 w)), (2, sv_i Xg17_l2), (3, sv_i Xg17_l3)]) (st' := [sv_i Xg17_l2]) rfl ?_
            exact sv_zret C hr (by omega) (by decide +kernel) hok23 (⟨rfl, ⟨_, rfl, ⟨by omega, by omega⟩, fun _ _ => (by omega)⟩⟩)
          · refine sv_go C.1 C.2.1 [(.iload_n 2, 1)] (pc' := 41) (by decide +kernel) rfl (lv' := [(0, sv_r a), (1, sv_r (g.2.2.2.2.1 w)), (2, sv_i Xg17_l2), (3, sv_i Xg17_l3)]) (st' := [sv_i Xg17_l2]) rfl ?_
            refine sv_if_t C.1 C.2.1 (cnd := .eq) (off := 34) (tgt := 75) (by decide +kernel) (by decide) ⟨by omega, by omega⟩ (show Xg17_l2 = 0 by omega) ?_
            refine sv_go C.1 C.2.1 [(.iload_n 2, 1)] (pc' := 76) (by decide +kernel) rfl (lv' := [(0, sv_r a), (1, sv_r (g.2.2.2.2.1 w)), (2, sv_i Xg17_l2), (3, sv_i Xg17_l3)]) (st' := [sv_i Xg17_l2]) rfl ?_
            exact sv_zret C hr (by omega) (by decide +kernel) hok23 (⟨rfl, ⟨_, rfl, ⟨by omega, by omega⟩, fun _ _ => (by omega)⟩⟩)
      exact L18 (((0 : Int)).toNat + 1) 0 0 ⟨by omega, by omega⟩ ⟨by omega, by omega⟩ (by omega) (by omega)
    · refine sv_go C.1 C.2.1 [(.iconst 1, 1)] (pc' := 25) (by decide +kernel) rfl (lv' := [(0, sv_r a), (1, sv_r (g.2.2.2.2.1 w))]) (st' := [sv_i 1]) rfl ?_
      refine sv_goto C.1 C.2.1 (off := 4) (tgt := 29) (by decide +kernel) (by decide) ?_
      refine sv_go C.1 C.2.1 [(.istore_n 2, 1), (.iconst 0, 1), (.istore_n 3, 1)] (pc' := 32) (by decide +kernel) rfl (lv' := [(0, sv_r a), (1, sv_r (g.2.2.2.2.1 w)), (2, sv_i 1), (3, sv_i 0)]) (st' := []) rfl ?_
      have L27 : ∀ (n : Nat) (Xg26_l2 : Int) (Xg26_l3 : Int), (0 ≤ Xg26_l2 ∧ Xg26_l2 ≤ 1) → (0 ≤ Xg26_l3 ∧ Xg26_l3 ≤ 12) → (Xg26_l2 = 0 ∨ (hh = 1 ∧ b2 = b1 + (sq_n w : Int))) → (12 - Xg26_l3) < (n : Int) → sv_E p l e { frames := 4, cells := 0, slots := 0, locals := 85 } s m args below meth c 4 g A ty (fun r σ' => σ = σ' ∧ ∃ rv : Int, r = [sv_i rv] ∧ (0 ≤ rv ∧ rv ≤ 1) ∧ (1 ≤ rv → rv ≤ 1 → hh = 1)) σ 32 [(0, sv_r a), (1, sv_r (g.2.2.2.2.1 w)), (2, sv_i Xg26_l2), (3, sv_i Xg26_l3)] [] := by
        intro n
        induction n with
        | zero => intro Xg26_l2 Xg26_l3 hXg26_l2 hXg26_l3 hq hmu; exact absurd hmu (by omega)
        | succ n ih28 =>
          intro Xg26_l2 Xg26_l3 hXg26_l2 hXg26_l3 hq hmu
          clear hJ2 hJ3
          refine sv_go C.1 C.2.1 [(.iload_n 3, 1), (.aload_n 1, 1)] (pc' := 34) (by decide +kernel) rfl (lv' := [(0, sv_r a), (1, sv_r (g.2.2.2.2.1 w)), (2, sv_i Xg26_l2), (3, sv_i Xg26_l3)]) (st' := [sv_r (g.2.2.2.2.1 w), sv_i Xg26_l3]) rfl ?_
          have hn33 := sq_n_in w
          refine sq_cv C h_w (index := 196) (k := 0) (as := []) (rest := [sv_i Xg26_l3]) (by decide +kernel) (sq_length l g A ty σ hok14 w h_w) ⟨co_J0_length_8abf5, in_J0, ⟨by decide, by decide, by decide +kernel⟩, Nat.le_of_ble_eq_true rfl, Nat.le_of_ble_eq_true rfl⟩ ml_X11_196 im_J0_length_8abf5 se_J0_length_8abf5 rfl rfl (Nat.le_of_ble_eq_true rfl) ⟨Nat.zero_le _, Nat.zero_le _⟩ (fun r30 σ31 hpo29 hok32 => ?_)
          obtain ⟨rfl, rfl⟩ := hpo29
          refine sv_same (st2 := [sv_i ((sq_n w : Int)), sv_i Xg26_l3]) (lv2 := [(0, sv_r a), (1, sv_r (g.2.2.2.2.1 w)), (2, sv_i Xg26_l2), (3, sv_i Xg26_l3)]) rfl rfl ?_
          refine sv_icmp C.1 C.2.1 (cnd := .ge) (off := 38) (tgt := 75) (by decide +kernel) (by decide) ⟨by omega, by omega⟩ ⟨by omega, by omega⟩ (fun (h34 : ((sq_n w : Int)) ≤ Xg26_l3) => ?_) (fun (h34 : ¬ (((sq_n w : Int)) ≤ Xg26_l3)) => ?_)
          · refine sv_go C.1 C.2.1 [(.iload_n 2, 1)] (pc' := 76) (by decide +kernel) rfl (lv' := [(0, sv_r a), (1, sv_r (g.2.2.2.2.1 w)), (2, sv_i Xg26_l2), (3, sv_i Xg26_l3)]) (st' := [sv_i Xg26_l2]) rfl ?_
            exact sv_zret C hr (by omega) (by decide +kernel) hok32 (⟨rfl, ⟨_, rfl, ⟨by omega, by omega⟩, fun _ _ => (by omega)⟩⟩)
          · refine sv_go C.1 C.2.1 [(.iload_n 2, 1)] (pc' := 41) (by decide +kernel) rfl (lv' := [(0, sv_r a), (1, sv_r (g.2.2.2.2.1 w)), (2, sv_i Xg26_l2), (3, sv_i Xg26_l3)]) (st' := [sv_i Xg26_l2]) rfl ?_
            refine sv_if C.1 C.2.1 (cnd := .eq) (off := 34) (tgt := 75) (by decide +kernel) (by decide) ⟨by omega, by omega⟩ (fun (h35 : Xg26_l2 = 0) => ?_) (fun (h35 : ¬ (Xg26_l2 = 0)) => ?_)
            · refine sv_go C.1 C.2.1 [(.iload_n 2, 1)] (pc' := 76) (by decide +kernel) rfl (lv' := [(0, sv_r a), (1, sv_r (g.2.2.2.2.1 w)), (2, sv_i Xg26_l2), (3, sv_i Xg26_l3)]) (st' := [sv_i Xg26_l2]) rfl ?_
              exact sv_zret C hr (by omega) (by decide +kernel) hok32 (⟨rfl, ⟨_, rfl, ⟨by omega, by omega⟩, fun _ _ => (by omega)⟩⟩)
            · refine sv_go C.1 C.2.1 [(.aload_n 0, 1)] (pc' := 45) (by decide +kernel) rfl (lv' := [(0, sv_r a), (1, sv_r (g.2.2.2.2.1 w)), (2, sv_i Xg26_l2), (3, sv_i Xg26_l3)]) (st' := [sv_r a]) rfl ?_
              obtain ⟨v36, ev36, kv36⟩ := hI.ref (k := 16) k_a rfl
              refine sv_gf C (index := 102) (ci := 10) (k := 16) (r := (RX11, TX11, 47)) (v := sv_r v36) (by decide +kernel) (by rw [k_a]; rfl) rfl (by decide) fl_X11_102 (congrArg sv_a ev36) ?_
              refine sv_go C.1 C.2.1 [(.aload_n 0, 1)] (pc' := 49) (by decide +kernel) rfl (lv' := [(0, sv_r a), (1, sv_r (g.2.2.2.2.1 w)), (2, sv_i Xg26_l2), (3, sv_i Xg26_l3)]) (st' := [sv_r a, sv_r v36]) rfl ?_
              refine sv_gf C (index := 172) (ci := 10) (k := 19) (r := (RX11, TX11, 47)) (v := sv_i b1) (by decide +kernel) (by rw [k_a]; rfl) rfl (by decide) fl_X11_172 (congrArg sv_i e19) ?_
              refine sv_go C.1 C.2.1 [(.iload_n 3, 1), (.iadd, 1)] (pc' := 54) (by decide +kernel) rfl (lv' := [(0, sv_r a), (1, sv_r (g.2.2.2.2.1 w)), (2, sv_i Xg26_l2), (3, sv_i Xg26_l3)]) (st' := [sv_i (b1 + Xg26_l3), sv_r v36]) rfl ?_
              refine sv_ba C (n := 4000) (by decide +kernel) (by rw [kv36]; rfl) (by decide) (by omega) (by omega) ?_
              obtain ⟨v37, ev37, hv37⟩ := sv_rdeb hok32 (a := v36) (k := (b1 + Xg26_l3 : Int).toNat) (n := 4000) (by rw [kv36]; rfl) (by omega)
              rw [ev37]
              refine sv_go C.1 C.2.1 [(.aload_n 1, 1), (.iload_n 3, 1)] (pc' := 57) (by decide +kernel) rfl (lv' := [(0, sv_r a), (1, sv_r (g.2.2.2.2.1 w)), (2, sv_i Xg26_l2), (3, sv_i Xg26_l3)]) (st' := [sv_i Xg26_l3, sv_r (g.2.2.2.2.1 w), sv_i v37]) rfl ?_
              have hn42 := sq_n_in w
              refine sq_cv C h_w (index := 202) (k := 1) (as := [sv_i Xg26_l3]) (rest := [sv_i v37]) (by decide +kernel) (sq_charAt l g A ty σ hok32 w h_w (Xg26_l3) ⟨by omega, by omega⟩) ⟨co_J0_charAt_5068e, in_J0, ⟨by decide, by decide, by decide +kernel⟩, Nat.le_of_ble_eq_true rfl, Nat.le_of_ble_eq_true rfl⟩ ml_X11_202 im_J0_charAt_5068e se_J0_charAt_5068e rfl rfl (Nat.le_of_ble_eq_true rfl) ⟨Nat.zero_le _, Nat.zero_le _⟩ (fun r39 σ40 hpo38 hok41 => ?_)
              obtain ⟨rfl, v43, rfl, hv43⟩ := hpo38
              refine sv_same (st2 := [sv_i v43, sv_i v37]) (lv2 := [(0, sv_r a), (1, sv_r (g.2.2.2.2.1 w)), (2, sv_i Xg26_l2), (3, sv_i Xg26_l3)]) rfl rfl ?_
              have J46 : ∀ (Jg45_s0 : Int), (0 ≤ Jg45_s0 ∧ Jg45_s0 ≤ 1) → sv_E p l e { frames := 4, cells := 0, slots := 0, locals := 85 } s m args below meth c 4 g A ty (fun r σ' => σ = σ' ∧ ∃ rv : Int, r = [sv_i rv] ∧ (0 ≤ rv ∧ rv ≤ 1) ∧ (1 ≤ rv → rv ≤ 1 → hh = 1)) σ 68 [(0, sv_r a), (1, sv_r (g.2.2.2.2.1 w)), (3, sv_i Xg26_l3)] [sv_i Jg45_s0] := by
                intro Jg45_s0 hJg45_s0
                refine sv_go C.1 C.2.1 [(.istore_n 2, 1), (.iinc 3 1, 3)] (pc' := 72) (by decide +kernel) rfl (lv' := [(0, sv_r a), (1, sv_r (g.2.2.2.2.1 w)), (2, sv_i Jg45_s0), (3, sv_i (Xg26_l3 + 1))]) (st' := []) rfl ?_
                refine sv_goto C.1 C.2.1 (off := (-40)) (tgt := 32) (by decide +kernel) (by decide) ?_
                exact ih28 Jg45_s0 (Xg26_l3 + 1) ⟨by omega, by omega⟩ ⟨by omega, by omega⟩ (by omega) (by omega)
              refine sv_icmp C.1 C.2.1 (cnd := .ne) (off := 7) (tgt := 67) (by decide +kernel) (by decide) ⟨by omega, by omega⟩ ⟨by omega, by omega⟩ (fun (h44 : v37 ≠ v43) => ?_) (fun (h44 : ¬ (v37 ≠ v43)) => ?_)
              · refine sv_go C.1 C.2.1 [(.iconst 0, 1)] (pc' := 68) (by decide +kernel) rfl (lv' := [(0, sv_r a), (1, sv_r (g.2.2.2.2.1 w)), (2, sv_i Xg26_l2), (3, sv_i Xg26_l3)]) (st' := [sv_i 0]) rfl ?_
                refine sv_pick [0, 1, 3] (lv2 := [(0, sv_r a), (1, sv_r (g.2.2.2.2.1 w)), (3, sv_i Xg26_l3)]) rfl ?_
                exact J46 0 ⟨by omega, by omega⟩
              · refine sv_go C.1 C.2.1 [(.iconst 1, 1)] (pc' := 64) (by decide +kernel) rfl (lv' := [(0, sv_r a), (1, sv_r (g.2.2.2.2.1 w)), (2, sv_i Xg26_l2), (3, sv_i Xg26_l3)]) (st' := [sv_i 1]) rfl ?_
                refine sv_goto C.1 C.2.1 (off := 4) (tgt := 68) (by decide +kernel) (by decide) ?_
                refine sv_pick [0, 1, 3] (lv2 := [(0, sv_r a), (1, sv_r (g.2.2.2.2.1 w)), (3, sv_i Xg26_l3)]) rfl ?_
                exact J46 1 ⟨by omega, by omega⟩
      exact L27 (((12 - 0 : Int)).toNat + 1) 1 0 ⟨by omega, by omega⟩ ⟨by omega, by omega⟩ (by omega) (by omega)

set_option maxHeartbeats 4000000 in
set_option maxRecDepth 100000 in
theorem sf_X11_isSign (l : Launch) (g : sv_G) (A : Nat → Prop) (ty : Nat → Nat) (σ : Nat → Nat → Int) (hok : sv_ok ty σ) (hTA : ∀ q, ty q ≠ 0 → A q) (hI : sv_inv sp_1 ty σ) (a : Nat) (k_a : ty a = 10) (v : Int) (h_v : (-2147483648) ≤ v ∧ v ≤ 2147483647) (n18 : Int) (h_n18 : 0 ≤ n18 ∧ n18 ≤ 4000) (b1 : Int) (h_b1 : 0 ≤ b1 ∧ b1 ≤ 4000) (b2 : Int) (h_b2 : 0 ≤ b2 ∧ b2 ≤ 4000) (hh : Int) (h_hh : 0 ≤ hh ∧ hh ≤ 4) (e18 : σ a 18 = n18) (e19 : σ a 19 = b1) (e20 : σ a 20 = b2) (e21 : σ a 21 = hh) (hJ1 : b1 ≤ b2 ∧ b2 ≤ n18) (hJ2 : hh = 0 ∨ b1 < b2) (hJ3 : hh ≠ 1 ∨ b2 ≤ b1 + 12) : sv_M l yX11_isSign cX11_isSign 2 (some .boolean) { frames := 0, cells := 0, slots := 0, locals := 0 } g A ty σ [sv_r a, sv_i v] (fun r σ' => σ = σ' ∧ ∃ rv : Int, r = [sv_i rv] ∧ (0 ≤ rv ∧ rv ≤ 1) ∧ (1 ≤ rv → rv ≤ 1 → hh = 3)) := by
  refine sv_enter (by decide) (Nat.le_of_ble_eq_true rfl) ?_
  intro p e s m args below meth c C hr
  have C : sv_C g A RX11 cX11_isSign 2 p s m args meth c := C
  have hr : meth.sig.returnType = (some .boolean) := hr
  have hF : sv_ofx [] [] ty σ σ := sv_ofx.rf
  refine sv_same (st2 := []) (lv2 := [(0, sv_r a), (1, sv_i v)]) rfl rfl ?_
  refine sv_go C.1 C.2.1 [(.aload_n 0, 1)] (pc' := 1) (by decide +kernel) rfl (lv' := [(0, sv_r a), (1, sv_i v)]) (st' := [sv_r a]) rfl ?_
  refine sv_gf C (index := 184) (ci := 10) (k := 21) (r := (RX11, TX11, 47)) (v := sv_i hh) (by decide +kernel) (by rw [k_a]; rfl) rfl (by decide) fl_X11_184 (congrArg sv_i e21) ?_
  refine sv_go C.1 C.2.1 [(.iconst 3, 1)] (pc' := 5) (by decide +kernel) rfl (lv' := [(0, sv_r a), (1, sv_i v)]) (st' := [sv_i 3, sv_i hh]) rfl ?_
  refine sv_icmp C.1 C.2.1 (cnd := .ne) (off := 20) (tgt := 25) (by decide +kernel) (by decide) ⟨by omega, by omega⟩ ⟨by omega, by omega⟩ (fun (h1 : hh ≠ 3) => ?_) (fun (h1 : ¬ (hh ≠ 3)) => ?_)
  · refine sv_go C.1 C.2.1 [(.iconst 0, 1)] (pc' := 26) (by decide +kernel) rfl (lv' := [(0, sv_r a), (1, sv_i v)]) (st' := [sv_i 0]) rfl ?_
    exact sv_zret C hr (by omega) (by decide +kernel) hok (⟨rfl, ⟨_, rfl, ⟨by omega, by omega⟩, fun _ _ => (by omega)⟩⟩)
  · refine sv_go C.1 C.2.1 [(.aload_n 0, 1)] (pc' := 9) (by decide +kernel) rfl (lv' := [(0, sv_r a), (1, sv_i v)]) (st' := [sv_r a]) rfl ?_
    obtain ⟨v2, ev2, kv2⟩ := hI.ref (k := 16) k_a rfl
    refine sv_gf C (index := 102) (ci := 10) (k := 16) (r := (RX11, TX11, 47)) (v := sv_r v2) (by decide +kernel) (by rw [k_a]; rfl) rfl (by decide) fl_X11_102 (congrArg sv_a ev2) ?_
    refine sv_go C.1 C.2.1 [(.aload_n 0, 1)] (pc' := 13) (by decide +kernel) rfl (lv' := [(0, sv_r a), (1, sv_i v)]) (st' := [sv_r a, sv_r v2]) rfl ?_
    refine sv_gf C (index := 172) (ci := 10) (k := 19) (r := (RX11, TX11, 47)) (v := sv_i b1) (by decide +kernel) (by rw [k_a]; rfl) rfl (by decide) fl_X11_172 (congrArg sv_i e19) ?_
    refine sv_ba C (n := 4000) (by decide +kernel) (by rw [kv2]; rfl) (by decide) (by omega) (by omega) ?_
    obtain ⟨v3, ev3, hv3⟩ := sv_rdeb hok (a := v2) (k := (b1 : Int).toNat) (n := 4000) (by rw [kv2]; rfl) (by omega)
    rw [ev3]
    refine sv_go C.1 C.2.1 [(.iload_n 1, 1)] (pc' := 18) (by decide +kernel) rfl (lv' := [(0, sv_r a), (1, sv_i v)]) (st' := [sv_i v, sv_i v3]) rfl ?_
    refine sv_icmp C.1 C.2.1 (cnd := .ne) (off := 7) (tgt := 25) (by decide +kernel) (by decide) ⟨by omega, by omega⟩ ⟨by omega, by omega⟩ (fun (h4 : v3 ≠ v) => ?_) (fun (h4 : ¬ (v3 ≠ v)) => ?_)
    · refine sv_go C.1 C.2.1 [(.iconst 0, 1)] (pc' := 26) (by decide +kernel) rfl (lv' := [(0, sv_r a), (1, sv_i v)]) (st' := [sv_i 0]) rfl ?_
      exact sv_zret C hr (by omega) (by decide +kernel) hok (⟨rfl, ⟨_, rfl, ⟨by omega, by omega⟩, fun _ _ => (by omega)⟩⟩)
    · refine sv_go C.1 C.2.1 [(.iconst 1, 1)] (pc' := 22) (by decide +kernel) rfl (lv' := [(0, sv_r a), (1, sv_i v)]) (st' := [sv_i 1]) rfl ?_
      refine sv_goto C.1 C.2.1 (off := 4) (tgt := 26) (by decide +kernel) (by decide) ?_
      exact sv_zret C hr (by omega) (by decide +kernel) hok (⟨rfl, ⟨_, rfl, ⟨by omega, by omega⟩, fun _ _ => (by omega)⟩⟩)

theorem ml_X11_208 : Cond.methodLink RX11 208 yX11_is ∈ lw_good := sv_mem 1293 (by decide +kernel) rfl
theorem co_X11_is : Cond.code yX11_is cX11_is 4 (some .boolean) ∈ lw_good := sv_mem 1296 (by decide +kernel) rfl
theorem im_X11_is : Cond.instanceMethod yX11_is ∈ lw_good := sv_mem 1295 (by decide +kernel) rfl
theorem se_X11_is : Cond.selects RX11 yX11_is yX11_is ∈ lw_good := sv_mem 49 (by decide +kernel) rfl
set_option maxHeartbeats 4000000 in
set_option maxRecDepth 100000 in
theorem sf_X11_isQuoted (l : Launch) (g : sv_G) (A : Nat → Prop) (ty : Nat → Nat) (σ : Nat → Nat → Int) (hok : sv_ok ty σ) (hTA : ∀ q, ty q ≠ 0 → A q) (hI : sv_inv sp_1 ty σ) (a : Nat) (k_a : ty a = 10) (n18 : Int) (h_n18 : 0 ≤ n18 ∧ n18 ≤ 4000) (b1 : Int) (h_b1 : 0 ≤ b1 ∧ b1 ≤ 4000) (b2 : Int) (h_b2 : 0 ≤ b2 ∧ b2 ≤ 4000) (hh : Int) (h_hh : 0 ≤ hh ∧ hh ≤ 4) (e18 : σ a 18 = n18) (e19 : σ a 19 = b1) (e20 : σ a 20 = b2) (e21 : σ a 21 = hh) (hJ1 : b1 ≤ b2 ∧ b2 ≤ n18) (hJ2 : hh = 0 ∨ b1 < b2) (hJ3 : hh ≠ 1 ∨ b2 ≤ b1 + 12) : sv_M l yX11_isQuoted cX11_isQuoted 1 (some .boolean) { frames := 5, cells := 0, slots := 0, locals := 108 } g A ty σ [sv_r a] (fun r σ' => σ = σ' ∧ ∃ rv : Int, r = [sv_i rv] ∧ (0 ≤ rv ∧ rv ≤ 1)) := by
  refine sv_enter (by decide) (Nat.le_of_ble_eq_true rfl) ?_
  intro p e s m args below meth c C hr
  have C : sv_C g A RX11 cX11_isQuoted 1 p s m args meth c := C
  have hr : meth.sig.returnType = (some .boolean) := hr
  have hF : sv_ofx [] [] ty σ σ := sv_ofx.rf
  refine sv_same (st2 := []) (lv2 := [(0, sv_r a)]) rfl rfl ?_
  refine sv_go C.1 C.2.1 [(.aload_n 0, 1)] (pc' := 1) (by decide +kernel) rfl (lv' := [(0, sv_r a)]) (st' := [sv_r a]) rfl ?_
  refine sq_ldc C (index := 206) (tx := "fixed") 15 (by decide) rfl (by decide +kernel) ?_
  refine sv_cv C (index := 208) (k := 1) (rest := []) (ci := 10) (r := (RX11, TX11, 47)) (by decide +kernel) (sf_X11_is l g A ty σ hok hTA hI a k_a 15 (by decide) (n18) ⟨by omega, by omega⟩ (b1) ⟨by omega, by omega⟩ (b2) ⟨by omega, by omega⟩ (hh) ⟨by omega, by omega⟩ e18 e19 e20 e21 (by omega) (by omega) (by omega)) ⟨co_X11_is, in_X11, ⟨by decide, by decide, by decide +kernel⟩, Nat.le_of_ble_eq_true rfl, Nat.le_of_ble_eq_true rfl⟩ ml_X11_208 im_X11_is se_X11_is (by rw [k_a]; rfl) rfl rfl rfl (Nat.le_of_ble_eq_true rfl) ⟨Nat.zero_le _, Nat.zero_le _⟩ (fun r2 σ3 hpo1 hok4 => ?_)
  obtain ⟨rfl, ⟨vu5, rfl, hvu5, ivu5_0⟩⟩ := hpo1
  replace ivu5_0 := zq_mk ivu5_0
  refine sv_same (st2 := [sv_i vu5]) (lv2 := [(0, sv_r a)]) rfl rfl ?_
  refine sv_if C.1 C.2.1 (cnd := .ne) (off := 93) (tgt := 99) (by decide +kernel) (by decide) ⟨by omega, by omega⟩ (fun (h6 : vu5 ≠ 0) => ?_) (fun (h6 : ¬ (vu5 ≠ 0)) => ?_)
  · have hp7 := zq_un ivu5_0 (by omega) (by omega)
    refine sv_go C.1 C.2.1 [(.iconst 1, 1)] (pc' := 100) (by decide +kernel) rfl (lv' := [(0, sv_r a)]) (st' := [sv_i 1]) rfl ?_
    refine sv_goto C.1 C.2.1 (off := 4) (tgt := 104) (by decide +kernel) (by decide) ?_
    exact sv_zret C hr (by omega) (by decide +kernel) hok4 (⟨rfl, ⟨_, rfl, ⟨by omega, by omega⟩⟩⟩)
  · refine sv_go C.1 C.2.1 [(.aload_n 0, 1)] (pc' := 10) (by decide +kernel) rfl (lv' := [(0, sv_r a)]) (st' := [sv_r a]) rfl ?_
    refine sq_ldc C (index := 212) (tx := "moved") 16 (by decide) rfl (by decide +kernel) ?_
    refine sv_cv C (index := 208) (k := 1) (rest := []) (ci := 10) (r := (RX11, TX11, 47)) (by decide +kernel) (sf_X11_is l g A ty σ hok4 hTA hI a k_a 16 (by decide) (n18) ⟨by omega, by omega⟩ (b1) ⟨by omega, by omega⟩ (b2) ⟨by omega, by omega⟩ (hh) ⟨by omega, by omega⟩ e18 e19 e20 e21 (by omega) (by omega) (by omega)) ⟨co_X11_is, in_X11, ⟨by decide, by decide, by decide +kernel⟩, Nat.le_of_ble_eq_true rfl, Nat.le_of_ble_eq_true rfl⟩ ml_X11_208 im_X11_is se_X11_is (by rw [k_a]; rfl) rfl rfl rfl (Nat.le_of_ble_eq_true rfl) ⟨Nat.zero_le _, Nat.zero_le _⟩ (fun r9 σ10 hpo8 hok11 => ?_)
    obtain ⟨rfl, ⟨vu12, rfl, hvu12, ivu12_0⟩⟩ := hpo8
    replace ivu12_0 := zq_mk ivu12_0
    refine sv_same (st2 := [sv_i vu12]) (lv2 := [(0, sv_r a)]) rfl rfl ?_
    refine sv_if C.1 C.2.1 (cnd := .ne) (off := 84) (tgt := 99) (by decide +kernel) (by decide) ⟨by omega, by omega⟩ (fun (h13 : vu12 ≠ 0) => ?_) (fun (h13 : ¬ (vu12 ≠ 0)) => ?_)
    · have hp14 := zq_un ivu12_0 (by omega) (by omega)
      refine sv_go C.1 C.2.1 [(.iconst 1, 1)] (pc' := 100) (by decide +kernel) rfl (lv' := [(0, sv_r a)]) (st' := [sv_i 1]) rfl ?_
      refine sv_goto C.1 C.2.1 (off := 4) (tgt := 104) (by decide +kernel) (by decide) ?_
      exact sv_zret C hr (by omega) (by decide +kernel) hok11 (⟨rfl, ⟨_, rfl, ⟨by omega, by omega⟩⟩⟩)
    · refine sv_go C.1 C.2.1 [(.aload_n 0, 1)] (pc' := 19) (by decide +kernel) rfl (lv' := [(0, sv_r a)]) (st' := [sv_r a]) rfl ?_
      refine sq_ldc C (index := 214) (tx := "sunday") 17 (by decide) rfl (by decide +kernel) ?_
      refine sv_cv C (index := 208) (k := 1) (rest := []) (ci := 10) (r := (RX11, TX11, 47)) (by decide +kernel) (sf_X11_is l g A ty σ hok11 hTA hI a k_a 17 (by decide) (n18) ⟨by omega, by omega⟩ (b1) ⟨by omega, by omega⟩ (b2) ⟨by omega, by omega⟩ (hh) ⟨by omega, by omega⟩ e18 e19 e20 e21 (by omega) (by omega) (by omega)) ⟨co_X11_is, in_X11, ⟨by decide, by decide, by decide +kernel⟩, Nat.le_of_ble_eq_true rfl, Nat.le_of_ble_eq_true rfl⟩ ml_X11_208 im_X11_is se_X11_is (by rw [k_a]; rfl) rfl rfl rfl (Nat.le_of_ble_eq_true rfl) ⟨Nat.zero_le _, Nat.zero_le _⟩ (fun r16 σ17 hpo15 hok18 => ?_)
      obtain ⟨rfl, ⟨vu19, rfl, hvu19, ivu19_0⟩⟩ := hpo15
      replace ivu19_0 := zq_mk ivu19_0
      refine sv_same (st2 := [sv_i vu19]) (lv2 := [(0, sv_r a)]) rfl rfl ?_
      refine sv_if C.1 C.2.1 (cnd := .ne) (off := 75) (tgt := 99) (by decide +kernel) (by decide) ⟨by omega, by omega⟩ (fun (h20 : vu19 ≠ 0) => ?_) (fun (h20 : ¬ (vu19 ≠ 0)) => ?_)
      · have hp21 := zq_un ivu19_0 (by omega) (by omega)
        refine sv_go C.1 C.2.1 [(.iconst 1, 1)] (pc' := 100) (by decide +kernel) rfl (lv' := [(0, sv_r a)]) (st' := [sv_i 1]) rfl ?_
        refine sv_goto C.1 C.2.1 (off := 4) (tgt := 104) (by decide +kernel) (by decide) ?_
        exact sv_zret C hr (by omega) (by decide +kernel) hok18 (⟨rfl, ⟨_, rfl, ⟨by omega, by omega⟩⟩⟩)
      · refine sv_go C.1 C.2.1 [(.aload_n 0, 1)] (pc' := 28) (by decide +kernel) rfl (lv' := [(0, sv_r a)]) (st' := [sv_r a]) rfl ?_
        refine sq_ldc C (index := 216) (tx := "rank") 18 (by decide) rfl (by decide +kernel) ?_
        refine sv_cv C (index := 208) (k := 1) (rest := []) (ci := 10) (r := (RX11, TX11, 47)) (by decide +kernel) (sf_X11_is l g A ty σ hok18 hTA hI a k_a 18 (by decide) (n18) ⟨by omega, by omega⟩ (b1) ⟨by omega, by omega⟩ (b2) ⟨by omega, by omega⟩ (hh) ⟨by omega, by omega⟩ e18 e19 e20 e21 (by omega) (by omega) (by omega)) ⟨co_X11_is, in_X11, ⟨by decide, by decide, by decide +kernel⟩, Nat.le_of_ble_eq_true rfl, Nat.le_of_ble_eq_true rfl⟩ ml_X11_208 im_X11_is se_X11_is (by rw [k_a]; rfl) rfl rfl rfl (Nat.le_of_ble_eq_true rfl) ⟨Nat.zero_le _, Nat.zero_le _⟩ (fun r23 σ24 hpo22 hok25 => ?_)
        obtain ⟨rfl, ⟨vu26, rfl, hvu26, ivu26_0⟩⟩ := hpo22
        replace ivu26_0 := zq_mk ivu26_0
        refine sv_same (st2 := [sv_i vu26]) (lv2 := [(0, sv_r a)]) rfl rfl ?_
        refine sv_if C.1 C.2.1 (cnd := .ne) (off := 66) (tgt := 99) (by decide +kernel) (by decide) ⟨by omega, by omega⟩ (fun (h27 : vu26 ≠ 0) => ?_) (fun (h27 : ¬ (vu26 ≠ 0)) => ?_)
        · have hp28 := zq_un ivu26_0 (by omega) (by omega)
          refine sv_go C.1 C.2.1 [(.iconst 1, 1)] (pc' := 100) (by decide +kernel) rfl (lv' := [(0, sv_r a)]) (st' := [sv_i 1]) rfl ?_
          refine sv_goto C.1 C.2.1 (off := 4) (tgt := 104) (by decide +kernel) (by decide) ?_
          exact sv_zret C hr (by omega) (by decide +kernel) hok25 (⟨rfl, ⟨_, rfl, ⟨by omega, by omega⟩⟩⟩)
        · refine sv_go C.1 C.2.1 [(.aload_n 0, 1)] (pc' := 37) (by decide +kernel) rfl (lv' := [(0, sv_r a)]) (st' := [sv_r a]) rfl ?_
          refine sq_ldc C (index := 217) (tx := "vigil") 19 (by decide) rfl (by decide +kernel) ?_
          refine sv_cv C (index := 208) (k := 1) (rest := []) (ci := 10) (r := (RX11, TX11, 47)) (by decide +kernel) (sf_X11_is l g A ty σ hok25 hTA hI a k_a 19 (by decide) (n18) ⟨by omega, by omega⟩ (b1) ⟨by omega, by omega⟩ (b2) ⟨by omega, by omega⟩ (hh) ⟨by omega, by omega⟩ e18 e19 e20 e21 (by omega) (by omega) (by omega)) ⟨co_X11_is, in_X11, ⟨by decide, by decide, by decide +kernel⟩, Nat.le_of_ble_eq_true rfl, Nat.le_of_ble_eq_true rfl⟩ ml_X11_208 im_X11_is se_X11_is (by rw [k_a]; rfl) rfl rfl rfl (Nat.le_of_ble_eq_true rfl) ⟨Nat.zero_le _, Nat.zero_le _⟩ (fun r30 σ31 hpo29 hok32 => ?_)
          obtain ⟨rfl, ⟨vu33, rfl, hvu33, ivu33_0⟩⟩ := hpo29
          replace ivu33_0 := zq_mk ivu33_0
          refine sv_same (st2 := [sv_i vu33]) (lv2 := [(0, sv_r a)]) rfl rfl ?_
          refine sv_if C.1 C.2.1 (cnd := .ne) (off := 57) (tgt := 99) (by decide +kernel) (by decide) ⟨by omega, by omega⟩ (fun (h34 : vu33 ≠ 0) => ?_) (fun (h34 : ¬ (vu33 ≠ 0)) => ?_)
          · have hp35 := zq_un ivu33_0 (by omega) (by omega)
            refine sv_go C.1 C.2.1 [(.iconst 1, 1)] (pc' := 100) (by decide +kernel) rfl (lv' := [(0, sv_r a)]) (st' := [sv_i 1]) rfl ?_
            refine sv_goto C.1 C.2.1 (off := 4) (tgt := 104) (by decide +kernel) (by decide) ?_
            exact sv_zret C hr (by omega) (by decide +kernel) hok32 (⟨rfl, ⟨_, rfl, ⟨by omega, by omega⟩⟩⟩)
          · refine sv_go C.1 C.2.1 [(.aload_n 0, 1)] (pc' := 46) (by decide +kernel) rfl (lv' := [(0, sv_r a)]) (st' := [sv_r a]) rfl ?_
            refine sq_ldc C (index := 218) (tx := "octave") 20 (by decide) rfl (by decide +kernel) ?_
            refine sv_cv C (index := 208) (k := 1) (rest := []) (ci := 10) (r := (RX11, TX11, 47)) (by decide +kernel) (sf_X11_is l g A ty σ hok32 hTA hI a k_a 20 (by decide) (n18) ⟨by omega, by omega⟩ (b1) ⟨by omega, by omega⟩ (b2) ⟨by omega, by omega⟩ (hh) ⟨by omega, by omega⟩ e18 e19 e20 e21 (by omega) (by omega) (by omega)) ⟨co_X11_is, in_X11, ⟨by decide, by decide, by decide +kernel⟩, Nat.le_of_ble_eq_true rfl, Nat.le_of_ble_eq_true rfl⟩ ml_X11_208 im_X11_is se_X11_is (by rw [k_a]; rfl) rfl rfl rfl (Nat.le_of_ble_eq_true rfl) ⟨Nat.zero_le _, Nat.zero_le _⟩ (fun r37 σ38 hpo36 hok39 => ?_)
            obtain ⟨rfl, ⟨vu40, rfl, hvu40, ivu40_0⟩⟩ := hpo36
            replace ivu40_0 := zq_mk ivu40_0
            refine sv_same (st2 := [sv_i vu40]) (lv2 := [(0, sv_r a)]) rfl rfl ?_
            refine sv_if C.1 C.2.1 (cnd := .ne) (off := 48) (tgt := 99) (by decide +kernel) (by decide) ⟨by omega, by omega⟩ (fun (h41 : vu40 ≠ 0) => ?_) (fun (h41 : ¬ (vu40 ≠ 0)) => ?_)
            · have hp42 := zq_un ivu40_0 (by omega) (by omega)
              refine sv_go C.1 C.2.1 [(.iconst 1, 1)] (pc' := 100) (by decide +kernel) rfl (lv' := [(0, sv_r a)]) (st' := [sv_i 1]) rfl ?_
              refine sv_goto C.1 C.2.1 (off := 4) (tgt := 104) (by decide +kernel) (by decide) ?_
              exact sv_zret C hr (by omega) (by decide +kernel) hok39 (⟨rfl, ⟨_, rfl, ⟨by omega, by omega⟩⟩⟩)
            · refine sv_go C.1 C.2.1 [(.aload_n 0, 1)] (pc' := 55) (by decide +kernel) rfl (lv' := [(0, sv_r a)]) (st' := [sv_r a]) rfl ?_
              refine sq_ldc C (index := 219) (tx := "from") 21 (by decide) rfl (by decide +kernel) ?_
              refine sv_cv C (index := 208) (k := 1) (rest := []) (ci := 10) (r := (RX11, TX11, 47)) (by decide +kernel) (sf_X11_is l g A ty σ hok39 hTA hI a k_a 21 (by decide) (n18) ⟨by omega, by omega⟩ (b1) ⟨by omega, by omega⟩ (b2) ⟨by omega, by omega⟩ (hh) ⟨by omega, by omega⟩ e18 e19 e20 e21 (by omega) (by omega) (by omega)) ⟨co_X11_is, in_X11, ⟨by decide, by decide, by decide +kernel⟩, Nat.le_of_ble_eq_true rfl, Nat.le_of_ble_eq_true rfl⟩ ml_X11_208 im_X11_is se_X11_is (by rw [k_a]; rfl) rfl rfl rfl (Nat.le_of_ble_eq_true rfl) ⟨Nat.zero_le _, Nat.zero_le _⟩ (fun r44 σ45 hpo43 hok46 => ?_)
              obtain ⟨rfl, ⟨vu47, rfl, hvu47, ivu47_0⟩⟩ := hpo43
              replace ivu47_0 := zq_mk ivu47_0
              refine sv_same (st2 := [sv_i vu47]) (lv2 := [(0, sv_r a)]) rfl rfl ?_
              refine sv_if C.1 C.2.1 (cnd := .ne) (off := 39) (tgt := 99) (by decide +kernel) (by decide) ⟨by omega, by omega⟩ (fun (h48 : vu47 ≠ 0) => ?_) (fun (h48 : ¬ (vu47 ≠ 0)) => ?_)
              · have hp49 := zq_un ivu47_0 (by omega) (by omega)
                refine sv_go C.1 C.2.1 [(.iconst 1, 1)] (pc' := 100) (by decide +kernel) rfl (lv' := [(0, sv_r a)]) (st' := [sv_i 1]) rfl ?_
                refine sv_goto C.1 C.2.1 (off := 4) (tgt := 104) (by decide +kernel) (by decide) ?_
                exact sv_zret C hr (by omega) (by decide +kernel) hok46 (⟨rfl, ⟨_, rfl, ⟨by omega, by omega⟩⟩⟩)
              · refine sv_go C.1 C.2.1 [(.aload_n 0, 1)] (pc' := 64) (by decide +kernel) rfl (lv' := [(0, sv_r a)]) (st' := [sv_r a]) rfl ?_
                refine sq_ldc C (index := 220) (tx := "till") 22 (by decide) rfl (by decide +kernel) ?_
                refine sv_cv C (index := 208) (k := 1) (rest := []) (ci := 10) (r := (RX11, TX11, 47)) (by decide +kernel) (sf_X11_is l g A ty σ hok46 hTA hI a k_a 22 (by decide) (n18) ⟨by omega, by omega⟩ (b1) ⟨by omega, by omega⟩ (b2) ⟨by omega, by omega⟩ (hh) ⟨by omega, by omega⟩ e18 e19 e20 e21 (by omega) (by omega) (by omega)) ⟨co_X11_is, in_X11, ⟨by decide, by decide, by decide +kernel⟩, Nat.le_of_ble_eq_true rfl, Nat.le_of_ble_eq_true rfl⟩ ml_X11_208 im_X11_is se_X11_is (by rw [k_a]; rfl) rfl rfl rfl (Nat.le_of_ble_eq_true rfl) ⟨Nat.zero_le _, Nat.zero_le _⟩ (fun r51 σ52 hpo50 hok53 => ?_)
                obtain ⟨rfl, ⟨vu54, rfl, hvu54, ivu54_0⟩⟩ := hpo50
                replace ivu54_0 := zq_mk ivu54_0
                refine sv_same (st2 := [sv_i vu54]) (lv2 := [(0, sv_r a)]) rfl rfl ?_
                refine sv_if C.1 C.2.1 (cnd := .ne) (off := 30) (tgt := 99) (by decide +kernel) (by decide) ⟨by omega, by omega⟩ (fun (h55 : vu54 ≠ 0) => ?_) (fun (h55 : ¬ (vu54 ≠ 0)) => ?_)
                · have hp56 := zq_un ivu54_0 (by omega) (by omega)
                  refine sv_go C.1 C.2.1 [(.iconst 1, 1)] (pc' := 100) (by decide +kernel) rfl (lv' := [(0, sv_r a)]) (st' := [sv_i 1]) rfl ?_
                  refine sv_goto C.1 C.2.1 (off := 4) (tgt := 104) (by decide +kernel) (by decide) ?_
                  exact sv_zret C hr (by omega) (by decide +kernel) hok53 (⟨rfl, ⟨_, rfl, ⟨by omega, by omega⟩⟩⟩)
                · refine sv_go C.1 C.2.1 [(.aload_n 0, 1)] (pc' := 73) (by decide +kernel) rfl (lv' := [(0, sv_r a)]) (st' := [sv_r a]) rfl ?_
                  refine sq_ldc C (index := 221) (tx := "yield") 12 (by decide) rfl (by decide +kernel) ?_
                  refine sv_cv C (index := 208) (k := 1) (rest := []) (ci := 10) (r := (RX11, TX11, 47)) (by decide +kernel) (sf_X11_is l g A ty σ hok53 hTA hI a k_a 12 (by decide) (n18) ⟨by omega, by omega⟩ (b1) ⟨by omega, by omega⟩ (b2) ⟨by omega, by omega⟩ (hh) ⟨by omega, by omega⟩ e18 e19 e20 e21 (by omega) (by omega) (by omega)) ⟨co_X11_is, in_X11, ⟨by decide, by decide, by decide +kernel⟩, Nat.le_of_ble_eq_true rfl, Nat.le_of_ble_eq_true rfl⟩ ml_X11_208 im_X11_is se_X11_is (by rw [k_a]; rfl) rfl rfl rfl (Nat.le_of_ble_eq_true rfl) ⟨Nat.zero_le _, Nat.zero_le _⟩ (fun r58 σ59 hpo57 hok60 => ?_)
                  obtain ⟨rfl, ⟨vu61, rfl, hvu61, ivu61_0⟩⟩ := hpo57
                  replace ivu61_0 := zq_mk ivu61_0
                  refine sv_same (st2 := [sv_i vu61]) (lv2 := [(0, sv_r a)]) rfl rfl ?_
                  refine sv_if C.1 C.2.1 (cnd := .ne) (off := 21) (tgt := 99) (by decide +kernel) (by decide) ⟨by omega, by omega⟩ (fun (h62 : vu61 ≠ 0) => ?_) (fun (h62 : ¬ (vu61 ≠ 0)) => ?_)
                  · have hp63 := zq_un ivu61_0 (by omega) (by omega)
                    refine sv_go C.1 C.2.1 [(.iconst 1, 1)] (pc' := 100) (by decide +kernel) rfl (lv' := [(0, sv_r a)]) (st' := [sv_i 1]) rfl ?_
                    refine sv_goto C.1 C.2.1 (off := 4) (tgt := 104) (by decide +kernel) (by decide) ?_
                    exact sv_zret C hr (by omega) (by decide +kernel) hok60 (⟨rfl, ⟨_, rfl, ⟨by omega, by omega⟩⟩⟩)
                  · refine sv_go C.1 C.2.1 [(.aload_n 0, 1)] (pc' := 82) (by decide +kernel) rfl (lv' := [(0, sv_r a)]) (st' := [sv_r a]) rfl ?_
                    refine sq_ldc C (index := 223) (tx := "wax") 14 (by decide) rfl (by decide +kernel) ?_
                    refine sv_cv C (index := 208) (k := 1) (rest := []) (ci := 10) (r := (RX11, TX11, 47)) (by decide +kernel) (sf_X11_is l g A ty σ hok60 hTA hI a k_a 14 (by decide) (n18) ⟨by omega, by omega⟩ (b1) ⟨by omega, by omega⟩ (b2) ⟨by omega, by omega⟩ (hh) ⟨by omega, by omega⟩ e18 e19 e20 e21 (by omega) (by omega) (by omega)) ⟨co_X11_is, in_X11, ⟨by decide, by decide, by decide +kernel⟩, Nat.le_of_ble_eq_true rfl, Nat.le_of_ble_eq_true rfl⟩ ml_X11_208 im_X11_is se_X11_is (by rw [k_a]; rfl) rfl rfl rfl (Nat.le_of_ble_eq_true rfl) ⟨Nat.zero_le _, Nat.zero_le _⟩ (fun r65 σ66 hpo64 hok67 => ?_)
                    obtain ⟨rfl, ⟨vu68, rfl, hvu68, ivu68_0⟩⟩ := hpo64
                    replace ivu68_0 := zq_mk ivu68_0
                    refine sv_same (st2 := [sv_i vu68]) (lv2 := [(0, sv_r a)]) rfl rfl ?_
                    refine sv_if C.1 C.2.1 (cnd := .ne) (off := 12) (tgt := 99) (by decide +kernel) (by decide) ⟨by omega, by omega⟩ (fun (h69 : vu68 ≠ 0) => ?_) (fun (h69 : ¬ (vu68 ≠ 0)) => ?_)
                    · have hp70 := zq_un ivu68_0 (by omega) (by omega)
                      refine sv_go C.1 C.2.1 [(.iconst 1, 1)] (pc' := 100) (by decide +kernel) rfl (lv' := [(0, sv_r a)]) (st' := [sv_i 1]) rfl ?_
                      refine sv_goto C.1 C.2.1 (off := 4) (tgt := 104) (by decide +kernel) (by decide) ?_
                      exact sv_zret C hr (by omega) (by decide +kernel) hok67 (⟨rfl, ⟨_, rfl, ⟨by omega, by omega⟩⟩⟩)
                    · refine sv_go C.1 C.2.1 [(.aload_n 0, 1)] (pc' := 91) (by decide +kernel) rfl (lv' := [(0, sv_r a)]) (st' := [sv_r a]) rfl ?_
                      refine sq_ldc C (index := 224) (tx := "lent") 13 (by decide) rfl (by decide +kernel) ?_
                      refine sv_cv C (index := 208) (k := 1) (rest := []) (ci := 10) (r := (RX11, TX11, 47)) (by decide +kernel) (sf_X11_is l g A ty σ hok67 hTA hI a k_a 13 (by decide) (n18) ⟨by omega, by omega⟩ (b1) ⟨by omega, by omega⟩ (b2) ⟨by omega, by omega⟩ (hh) ⟨by omega, by omega⟩ e18 e19 e20 e21 (by omega) (by omega) (by omega)) ⟨co_X11_is, in_X11, ⟨by decide, by decide, by decide +kernel⟩, Nat.le_of_ble_eq_true rfl, Nat.le_of_ble_eq_true rfl⟩ ml_X11_208 im_X11_is se_X11_is (by rw [k_a]; rfl) rfl rfl rfl (Nat.le_of_ble_eq_true rfl) ⟨Nat.zero_le _, Nat.zero_le _⟩ (fun r72 σ73 hpo71 hok74 => ?_)
                      obtain ⟨rfl, ⟨vu75, rfl, hvu75, ivu75_0⟩⟩ := hpo71
                      replace ivu75_0 := zq_mk ivu75_0
                      refine sv_same (st2 := [sv_i vu75]) (lv2 := [(0, sv_r a)]) rfl rfl ?_
                      refine sv_if C.1 C.2.1 (cnd := .eq) (off := 7) (tgt := 103) (by decide +kernel) (by decide) ⟨by omega, by omega⟩ (fun (h76 : vu75 = 0) => ?_) (fun (h76 : ¬ (vu75 = 0)) => ?_)
                      · refine sv_go C.1 C.2.1 [(.iconst 0, 1)] (pc' := 104) (by decide +kernel) rfl (lv' := [(0, sv_r a)]) (st' := [sv_i 0]) rfl ?_
                        exact sv_zret C hr (by omega) (by decide +kernel) hok74 (⟨rfl, ⟨_, rfl, ⟨by omega, by omega⟩⟩⟩)
                      · have hp77 := zq_un ivu75_0 (by omega) (by omega)
                        refine sv_go C.1 C.2.1 [(.iconst 1, 1)] (pc' := 100) (by decide +kernel) rfl (lv' := [(0, sv_r a)]) (st' := [sv_i 1]) rfl ?_
                        refine sv_goto C.1 C.2.1 (off := 4) (tgt := 104) (by decide +kernel) (by decide) ?_
                        exact sv_zret C hr (by omega) (by decide +kernel) hok74 (⟨rfl, ⟨_, rfl, ⟨by omega, by omega⟩⟩⟩)

theorem fl_X11_98 : Cond.fieldLink RX11 98 "SaintsRoadModel" "stop" "LSaintsRoadModel$Stop;" ∈ lw_good := sv_mem 1119 (by decide +kernel) rfl
set_option maxHeartbeats 4000000 in
set_option maxRecDepth 100000 in
theorem sf_X11_wrong (l : Launch) (g : sv_G) (A : Nat → Prop) (ty : Nat → Nat) (σ : Nat → Nat → Int) (hok : sv_ok ty σ) (hTA : ∀ q, ty q ≠ 0 → A q) (hI : sv_inv sp_1 ty σ) (a : Nat) (k_a : ty a = 10) (v : Int) (h_v : (-2147483648) ≤ v ∧ v ≤ 2147483647) : sv_M l yX11_wrong cX11_wrong 2 (some (.object "SaintsRoadModel$Stop")) { frames := 0, cells := 0, slots := 0, locals := 0 } g A ty σ [sv_r a, sv_i v] (fun r σ' => (∃ rq : Nat, r = [sv_r rq] ∧ ty rq = 11) ∧ sv_inv sp_1 ty σ' ∧ sv_ofx [(10, 23), (10, 24)] [] ty σ σ') := by
  refine sv_enter (by decide) (Nat.le_of_ble_eq_true rfl) ?_
  intro p e s m args below meth c C hr
  have C : sv_C g A RX11 cX11_wrong 2 p s m args meth c := C
  have hr : meth.sig.returnType = (some (.object "SaintsRoadModel$Stop")) := hr
  have hF : sv_ofx [(10, 23), (10, 24)] [] ty σ σ := sv_ofx.rf
  refine sv_same (st2 := []) (lv2 := [(0, sv_r a), (1, sv_i v)]) rfl rfl ?_
  refine sv_go C.1 C.2.1 [(.aload_n 0, 1), (.iload_n 1, 1)] (pc' := 2) (by decide +kernel) rfl (lv' := [(0, sv_r a), (1, sv_i v)]) (st' := [sv_i v, sv_r a]) rfl ?_
  refine sv_pf C (index := 169) (ci := 10) (k := 23) (r := (RX11, TX11, 47)) (z := v) (by decide +kernel) (by rw [k_a]; rfl) rfl (by decide) rfl fl_X11_169 rfl (Or.inl rfl) ⟨by omega, by omega⟩ (hTA _ (by rw [k_a]; decide)) hok (fun hok1 => ?_)
  have hI3 := hI.up (a := a) (k := 23) (z := v) (by rw [k_a]; exact trivial)
  have hF4 := hF.up (a := a) (k := 23) (z := v) (Or.inr (by rw [k_a]; decide))
  generalize eσ2 : sv_up σ a 23 v = σ2 at hok1 hI3 hF4 ⊢
  have t5 : σ2 a 23 = v := by rw [← eσ2]; exact sv_up_s _ _ _ _
  refine sv_go C.1 C.2.1 [(.aload_n 0, 1), (.aload_n 0, 1)] (pc' := 7) (by decide +kernel) rfl (lv' := [(0, sv_r a), (1, sv_i v)]) (st' := [sv_r a, sv_r a]) rfl ?_
  obtain ⟨v6, ev6, hv6⟩ := sv_rdn hI3 (k := 19) k_a rfl
  refine sv_gf C (index := 172) (ci := 10) (k := 19) (r := (RX11, TX11, 47)) (v := sv_i v6) (by decide +kernel) (by rw [k_a]; rfl) rfl (by decide) fl_X11_172 (congrArg sv_i ev6) ?_
  refine sv_pf C (index := 105) (ci := 10) (k := 24) (r := (RX11, TX11, 47)) (z := v6) (by decide +kernel) (by rw [k_a]; rfl) rfl (by decide) rfl fl_X11_105 rfl (Or.inl rfl) ⟨by omega, by omega⟩ (hTA _ (by rw [k_a]; decide)) hok1 (fun hok7 => ?_)
  have hI9 := hI3.up (a := a) (k := 24) (z := v6) (by rw [k_a]; exact trivial)
  have hF10 := hF4.up (a := a) (k := 24) (z := v6) (Or.inr (by rw [k_a]; decide))
  generalize eσ8 : sv_up σ2 a 24 v6 = σ8 at hok7 hI9 hF10 ⊢
  have t11 : σ8 a 23 = v := by rw [← eσ8, sv_up_k (by decide)]; exact t5
  have t12 : σ8 a 19 = v6 := by rw [← eσ8, sv_up_k (by decide)]; exact ev6
  have t13 : σ8 a 24 = v6 := by rw [← eσ8]; exact sv_up_s _ _ _ _
  refine sv_go C.1 C.2.1 [(.aload_n 0, 1)] (pc' := 14) (by decide +kernel) rfl (lv' := [(0, sv_r a), (1, sv_i v)]) (st' := [sv_r a]) rfl ?_
  obtain ⟨v14, ev14, kv14⟩ := hI9.ref (k := 15) k_a rfl
  refine sv_gf C (index := 98) (ci := 10) (k := 15) (r := (RX11, TX11, 47)) (v := sv_r v14) (by decide +kernel) (by rw [k_a]; rfl) rfl (by decide) fl_X11_98 (congrArg sv_a ev14) ?_
  exact sv_aret C hr (Or.inl ⟨_, rfl⟩) (by decide +kernel) hok7 (⟨⟨v14, rfl, kv14⟩, hI9, hF10⟩)

theorem ml_X11_225 : Cond.methodLink RX11 225 yX11_wrong ∈ lw_good := sv_mem 1299 (by decide +kernel) rfl
theorem co_X11_wrong : Cond.code yX11_wrong cX11_wrong 2 (some (.object "SaintsRoadModel$Stop")) ∈ lw_good := sv_mem 1302 (by decide +kernel) rfl
theorem im_X11_wrong : Cond.instanceMethod yX11_wrong ∈ lw_good := sv_mem 1301 (by decide +kernel) rfl
theorem se_X11_wrong : Cond.selects RX11 yX11_wrong yX11_wrong ∈ lw_good := sv_mem 50 (by decide +kernel) rfl
set_option maxHeartbeats 4000000 in
set_option maxRecDepth 100000 in
theorem sf_X11_number (l : Launch) (g : sv_G) (A : Nat → Prop) (ty : Nat → Nat) (σ : Nat → Nat → Int) (hok : sv_ok ty σ) (hTA : ∀ q, ty q ≠ 0 → A q) (hI : sv_inv sp_1 ty σ) (a : Nat) (k_a : ty a = 10) (lo : Int) (h_lo : (-2147483648) ≤ lo ∧ lo ≤ 2147483647) (hi : Int) (h_hi : (-2147483648) ≤ hi ∧ hi ≤ 2147483647) (n18 : Int) (h_n18 : 0 ≤ n18 ∧ n18 ≤ 4000) (b1 : Int) (h_b1 : 0 ≤ b1 ∧ b1 ≤ 4000) (b2 : Int) (h_b2 : 0 ≤ b2 ∧ b2 ≤ 4000) (hh : Int) (h_hh : 0 ≤ hh ∧ hh ≤ 4) (e18 : σ a 18 = n18) (e19 : σ a 19 = b1) (e20 : σ a 20 = b2) (e21 : σ a 21 = hh) (hJ1 : b1 ≤ b2 ∧ b2 ≤ n18) (hJ2 : hh = 0 ∨ b1 < b2) (hJ3 : hh ≠ 1 ∨ b2 ≤ b1 + 12) : st_M l yX11_number cX11_number 3 (some .int) { frames := 1, cells := 0, slots := 0, locals := 25 } g A ty σ [sv_r a, sv_i lo, sv_i hi] (fun r σ' => (∃ rv : Int, r = [sv_i rv] ∧ ((-2147483648) ≤ rv ∧ rv ≤ 2147483647) ∧ ((-2147483648) ≤ rv → rv ≤ 2147483647 → lo ≤ rv ∧ rv ≤ hi)) ∧ sv_inv sp_1 ty σ' ∧ sv_ofx [(10, 23), (10, 24)] [] ty σ σ') (fun x σ' => ty x = 11 ∧ sv_inv sp_1 ty σ' ∧ sv_ofx [(10, 23), (10, 24)] [] ty σ σ') := by
  refine st_enter (by decide) (Nat.le_of_ble_eq_true rfl) ?_
  intro p e s m args below meth c C hr hE
  have C : sv_C g A RX11 cX11_number 3 p s m args meth c := C
  have hr : meth.sig.returnType = (some .int) := hr
  have hF : sv_ofx [(10, 23), (10, 24)] [] ty σ σ := sv_ofx.rf
  refine sv_same (st2 := []) (lv2 := [(0, sv_r a), (1, sv_i lo), (2, sv_i hi)]) rfl rfl ?_
  refine sv_go C.1 C.2.1 [(.aload_n 0, 1)] (pc' := 1) (by decide +kernel) rfl (lv' := [(0, sv_r a), (1, sv_i lo), (2, sv_i hi)]) (st' := [sv_r a]) rfl ?_
  refine sv_gf C (index := 184) (ci := 10) (k := 21) (r := (RX11, TX11, 47)) (v := sv_i hh) (by decide +kernel) (by rw [k_a]; rfl) rfl (by decide) fl_X11_184 (congrArg sv_i e21) ?_
  refine sv_go C.1 C.2.1 [(.iconst 2, 1)] (pc' := 5) (by decide +kernel) rfl (lv' := [(0, sv_r a), (1, sv_i lo), (2, sv_i hi)]) (st' := [sv_i 2, sv_i hh]) rfl ?_
  refine sv_icmp C.1 C.2.1 (cnd := .eq) (off := 9) (tgt := 14) (by decide +kernel) (by decide) ⟨by omega, by omega⟩ ⟨by omega, by omega⟩ (fun (h1 : hh = 2) => ?_) (fun (h1 : ¬ (hh = 2)) => ?_)
  · refine sv_go C.1 C.2.1 [(.aload_n 0, 1)] (pc' := 15) (by decide +kernel) rfl (lv' := [(0, sv_r a), (1, sv_i lo), (2, sv_i hi)]) (st' := [sv_r a]) rfl ?_
    obtain ⟨v2, ev2, hv2⟩ := sv_rdk hok (a := a) (k := 22) (ci := 10) (r := (RX11, TX11, 47)) (by rw [k_a]; rfl) rfl (by decide) rfl
    refine sv_gf C (index := 193) (ci := 10) (k := 22) (r := (RX11, TX11, 47)) (v := sv_i v2) (by decide +kernel) (by rw [k_a]; rfl) rfl (by decide) fl_X11_193 (congrArg sv_i ev2) ?_
    refine sv_i2l C.1 C.2.1 (by decide +kernel) ⟨by omega, by omega⟩ ?_
    refine sv_go C.1 C.2.1 [(.iload_n 1, 1)] (pc' := 20) (by decide +kernel) rfl (lv' := [(0, sv_r a), (1, sv_i lo), (2, sv_i hi)]) (st' := [sv_i lo, sv_l v2]) rfl ?_
    refine sv_i2l C.1 C.2.1 (by decide +kernel) ⟨by omega, by omega⟩ ?_
    refine sv_go C.1 C.2.1 [(.iload_n 2, 1)] (pc' := 22) (by decide +kernel) rfl (lv' := [(0, sv_r a), (1, sv_i lo), (2, sv_i hi)]) (st' := [sv_i hi, sv_l lo, sv_l v2]) rfl ?_
    refine sv_i2l C.1 C.2.1 (by decide +kernel) ⟨by omega, by omega⟩ ?_
    refine sv_cs C (index := 9) (k := 3) (rest := []) (by decide +kernel) (ct_X11_in l g A ty σ hok (v2) ⟨by omega, by omega⟩ (lo) ⟨by omega, by omega⟩ (hi) ⟨by omega, by omega⟩) ⟨co_X11_in, in_X11, ⟨by decide, by decide, by decide +kernel⟩, Nat.le_of_ble_eq_true rfl, Nat.le_of_ble_eq_true rfl⟩ ml_X11_9 st_X11_in rfl rfl (Nat.le_of_ble_eq_true rfl) ⟨Nat.zero_le _, Nat.zero_le _⟩ (fun r4 σ5 hpo3 hok6 => ?_)
    obtain ⟨rfl, ⟨h7, rfl⟩ | ⟨h7, rfl⟩⟩ := hpo3
    · refine sv_same (st2 := [sv_i 1]) (lv2 := [(0, sv_r a), (1, sv_i lo), (2, sv_i hi)]) rfl rfl ?_
      refine sv_if_t C.1 C.2.1 (cnd := .ne) (off := 9) (tgt := 35) (by decide +kernel) (by decide) ⟨by omega, by omega⟩ (show 1 ≠ 0 by omega) ?_
      refine sv_go C.1 C.2.1 [(.aload_n 0, 1)] (pc' := 36) (by decide +kernel) rfl (lv' := [(0, sv_r a), (1, sv_i lo), (2, sv_i hi)]) (st' := [sv_r a]) rfl ?_
      refine sv_gf C (index := 193) (ci := 10) (k := 22) (r := (RX11, TX11, 47)) (v := sv_i v2) (by decide +kernel) (by rw [k_a]; rfl) rfl (by decide) fl_X11_193 (congrArg sv_i ev2) ?_
      exact st_of (sv_iret C hr (by decide +kernel) hok6 (⟨⟨_, rfl, ⟨by omega, by omega⟩, fun _ _ => (by omega)⟩, hI, hF⟩))
    · refine sv_same (st2 := [sv_i 0]) (lv2 := [(0, sv_r a), (1, sv_i lo), (2, sv_i hi)]) rfl rfl ?_
      refine sv_if_f C.1 C.2.1 (cnd := .ne) (off := 9) (tgt := 35) (by decide +kernel) (by decide) ⟨by omega, by omega⟩ (show ¬ (0 ≠ 0) by omega) ?_
      refine sv_go C.1 C.2.1 [(.aload_n 0, 1), (.iconst 3, 1)] (pc' := 31) (by decide +kernel) rfl (lv' := [(0, sv_r a), (1, sv_i lo), (2, sv_i hi)]) (st' := [sv_i 3, sv_r a]) rfl ?_
      refine sv_cv C (index := 225) (k := 1) (rest := []) (ci := 10) (r := (RX11, TX11, 47)) (by decide +kernel) (sf_X11_wrong l g A ty σ hok6 hTA hI a k_a (3) ⟨by omega, by omega⟩) ⟨co_X11_wrong, in_X11, ⟨by decide, by decide, by decide +kernel⟩, Nat.le_of_ble_eq_true rfl, Nat.le_of_ble_eq_true rfl⟩ ml_X11_225 im_X11_wrong se_X11_wrong (by rw [k_a]; rfl) rfl rfl rfl (Nat.le_of_ble_eq_true rfl) ⟨Nat.zero_le _, Nat.zero_le _⟩ (fun r9 σ10 hpo8 hok11 => ?_)
      obtain ⟨⟨qu12, rfl, kqu12⟩, hIu12, hFu12⟩ := hpo8
      have hGu12 := hF.tr hFu12 (by decide +kernel) (by decide +kernel)
      have t13 : σ10 a 18 = n18 := (hFu12.at k_a (by decide +kernel) (by decide +kernel)).trans e18
      have t14 : σ10 a 19 = b1 := (hFu12.at k_a (by decide +kernel) (by decide +kernel)).trans e19
      have t15 : σ10 a 20 = b2 := (hFu12.at k_a (by decide +kernel) (by decide +kernel)).trans e20
      have t16 : σ10 a 21 = hh := (hFu12.at k_a (by decide +kernel) (by decide +kernel)).trans e21
      have t17 : σ10 a 22 = v2 := (hFu12.at k_a (by decide +kernel) (by decide +kernel)).trans ev2
      refine sv_same (st2 := [sv_r qu12]) (lv2 := [(0, sv_r a), (1, sv_i lo), (2, sv_i hi)]) rfl rfl ?_
      exact st_throw C hE (by decide +kernel) hok11 ⟨kqu12, hIu12, hGu12⟩
  · refine sv_go C.1 C.2.1 [(.aload_n 0, 1), (.iconst 1, 1)] (pc' := 10) (by decide +kernel) rfl (lv' := [(0, sv_r a), (1, sv_i lo), (2, sv_i hi)]) (st' := [sv_i 1, sv_r a]) rfl ?_
    refine sv_cv C (index := 225) (k := 1) (rest := []) (ci := 10) (r := (RX11, TX11, 47)) (by decide +kernel) (sf_X11_wrong l g A ty σ hok hTA hI a k_a (1) ⟨by omega, by omega⟩) ⟨co_X11_wrong, in_X11, ⟨by decide, by decide, by decide +kernel⟩, Nat.le_of_ble_eq_true rfl, Nat.le_of_ble_eq_true rfl⟩ ml_X11_225 im_X11_wrong se_X11_wrong (by rw [k_a]; rfl) rfl rfl rfl (Nat.le_of_ble_eq_true rfl) ⟨Nat.zero_le _, Nat.zero_le _⟩ (fun r19 σ20 hpo18 hok21 => ?_)
    obtain ⟨⟨qu22, rfl, kqu22⟩, hIu22, hFu22⟩ := hpo18
    have hGu22 := hF.tr hFu22 (by decide +kernel) (by decide +kernel)
    have t23 : σ20 a 18 = n18 := (hFu22.at k_a (by decide +kernel) (by decide +kernel)).trans e18
    have t24 : σ20 a 19 = b1 := (hFu22.at k_a (by decide +kernel) (by decide +kernel)).trans e19
    have t25 : σ20 a 20 = b2 := (hFu22.at k_a (by decide +kernel) (by decide +kernel)).trans e20
    have t26 : σ20 a 21 = hh := (hFu22.at k_a (by decide +kernel) (by decide +kernel)).trans e21
    refine sv_same (st2 := [sv_r qu22]) (lv2 := [(0, sv_r a), (1, sv_i lo), (2, sv_i hi)]) rfl rfl ?_
    exact st_throw C hE (by decide +kernel) hok21 ⟨kqu22, hIu22, hGu22⟩

theorem ml_X11_232 : Cond.methodLink RX11 232 yX11_number ∈ lw_good := sv_mem 1307 (by decide +kernel) rfl
theorem co_X11_number : Cond.code yX11_number cX11_number 3 (some .int) ∈ lw_good := sv_mem 1310 (by decide +kernel) rfl
theorem im_X11_number : Cond.instanceMethod yX11_number ∈ lw_good := sv_mem 1309 (by decide +kernel) rfl
theorem se_X11_number : Cond.selects RX11 yX11_number yX11_number ∈ lw_good := sv_mem 52 (by decide +kernel) rfl
theorem ml_X11_229 : Cond.methodLink RX11 229 yX11_scan ∈ lw_good := sv_mem 1274 (by decide +kernel) rfl
theorem co_X11_scan : Cond.code yX11_scan cX11_scan 2 none ∈ lw_good := sv_mem 1277 (by decide +kernel) rfl
theorem im_X11_scan : Cond.instanceMethod yX11_scan ∈ lw_good := sv_mem 1276 (by decide +kernel) rfl
theorem se_X11_scan : Cond.selects RX11 yX11_scan yX11_scan ∈ lw_good := sv_mem 46 (by decide +kernel) rfl
set_option maxHeartbeats 4000000 in
set_option maxRecDepth 100000 in
theorem sf_X11_takeNumber (l : Launch) (g : sv_G) (A : Nat → Prop) (ty : Nat → Nat) (σ : Nat → Nat → Int) (hok : sv_ok ty σ) (hTA : ∀ q, ty q ≠ 0 → A q) (hI : sv_inv sp_1 ty σ) (a : Nat) (k_a : ty a = 10) (lo : Int) (h_lo : (-2147483648) ≤ lo ∧ lo ≤ 2147483647) (hi : Int) (h_hi : (-2147483648) ≤ hi ∧ hi ≤ 2147483647) (n18 : Int) (h_n18 : 0 ≤ n18 ∧ n18 ≤ 4000) (b1 : Int) (h_b1 : 0 ≤ b1 ∧ b1 ≤ 4000) (b2 : Int) (h_b2 : 0 ≤ b2 ∧ b2 ≤ 4000) (hh : Int) (h_hh : 0 ≤ hh ∧ hh ≤ 4) (e18 : σ a 18 = n18) (e19 : σ a 19 = b1) (e20 : σ a 20 = b2) (e21 : σ a 21 = hh) (hJ1 : b1 ≤ b2 ∧ b2 ≤ n18) (hJ2 : hh = 0 ∨ b1 < b2) (hJ3 : hh ≠ 1 ∨ b2 ≤ b1 + 12) : st_M l yX11_takeNumber cX11_takeNumber 4 (some .int) { frames := 2, cells := 0, slots := 0, locals := 47 } g A ty σ [sv_r a, sv_i lo, sv_i hi] (fun r σ' => (∃ rv : Int, r = [sv_i rv] ∧ ((-2147483648) ≤ rv ∧ rv ≤ 2147483647) ∧ ((-2147483648) ≤ rv → rv ≤ 2147483647 → lo ≤ rv ∧ rv ≤ hi)) ∧ sv_inv sp_1 ty σ' ∧ sv_ofx [(10, 19), (10, 20), (10, 21), (10, 22), (10, 23), (10, 24)] [] ty σ σ' ∧ ∃ c1 c2 hc : Int, σ' a 19 = c1 ∧ σ' a 20 = c2 ∧ σ' a 21 = hc ∧ (b1 ≤ c1 ∧ c1 ≤ c2 ∧ c2 ≤ n18) ∧ (0 ≤ hc ∧ hc ≤ 4) ∧ (hc = 0 ∨ c1 < c2) ∧ (hc ≠ 1 ∨ c2 ≤ c1 + 12)) (fun x σ' => ty x = 11 ∧ sv_inv sp_1 ty σ' ∧ sv_ofx [(10, 19), (10, 20), (10, 21), (10, 22), (10, 23), (10, 24)] [] ty σ σ') := by
  refine st_enter (by decide) (Nat.le_of_ble_eq_true rfl) ?_
  intro p e s m args below meth c C hr hE
  have C : sv_C g A RX11 cX11_takeNumber 4 p s m args meth c := C
  have hr : meth.sig.returnType = (some .int) := hr
  have hF : sv_ofx [(10, 19), (10, 20), (10, 21), (10, 22), (10, 23), (10, 24)] [] ty σ σ := sv_ofx.rf
  refine sv_same (st2 := []) (lv2 := [(0, sv_r a), (1, sv_i lo), (2, sv_i hi)]) rfl rfl ?_
  refine sv_go C.1 C.2.1 [(.aload_n 0, 1), (.iload_n 1, 1), (.iload_n 2, 1)] (pc' := 3) (by decide +kernel) rfl (lv' := [(0, sv_r a), (1, sv_i lo), (2, sv_i hi)]) (st' := [sv_i hi, sv_i lo, sv_r a]) rfl ?_
  refine st_cv C (index := 232) (k := 2) (rest := []) (ci := 10) (r := (RX11, TX11, 47)) (by decide +kernel) (sf_X11_number l g A ty σ hok hTA hI a k_a (lo) ⟨by omega, by omega⟩ (hi) ⟨by omega, by omega⟩ (n18) ⟨by omega, by omega⟩ (b1) ⟨by omega, by omega⟩ (b2) ⟨by omega, by omega⟩ (hh) ⟨by omega, by omega⟩ e18 e19 e20 e21 (by omega) (by omega) (by omega)) ⟨co_X11_number, in_X11, ⟨by decide, by decide, by decide +kernel⟩, Nat.le_of_ble_eq_true rfl, Nat.le_of_ble_eq_true rfl⟩ ml_X11_232 im_X11_number se_X11_number (by rw [k_a]; rfl) rfl rfl rfl (Nat.le_of_ble_eq_true rfl) ⟨Nat.zero_le _, Nat.zero_le _⟩ (fun r2 σ3 hpo1 hok4 => ?_) (fun xt5 σ3 hpo1 hok4 => st_out C hE hok4 ⟨hpo1.1, hpo1.2.1, hF.tr hpo1.2.2 (by decide +kernel) (by decide +kernel)⟩)
  obtain ⟨⟨vu6, rfl, hvu6, ivu6_0⟩, hIu6, hFu6⟩ := hpo1
  have hGu6 := hF.tr hFu6 (by decide +kernel) (by decide +kernel)
  have t7 : σ3 a 18 = n18 := (hFu6.at k_a (by decide +kernel) (by decide +kernel)).trans e18
  have t8 : σ3 a 19 = b1 := (hFu6.at k_a (by decide +kernel) (by decide +kernel)).trans e19
  have t9 : σ3 a 20 = b2 := (hFu6.at k_a (by decide +kernel) (by decide +kernel)).trans e20
  have t10 : σ3 a 21 = hh := (hFu6.at k_a (by decide +kernel) (by decide +kernel)).trans e21
  replace ivu6_0 := zq_mk ivu6_0
  have hp11 := zq_un ivu6_0 (by omega) (by omega)
  refine sv_same (st2 := [sv_i vu6]) (lv2 := [(0, sv_r a), (1, sv_i lo), (2, sv_i hi)]) rfl rfl ?_
  refine sv_go C.1 C.2.1 [(.istore_n 3, 1), (.aload_n 0, 1)] (pc' := 8) (by decide +kernel) rfl (lv' := [(0, sv_r a), (1, sv_i lo), (2, sv_i hi), (3, sv_i vu6)]) (st' := [sv_r a]) rfl ?_
  refine sv_cv C (index := 229) (k := 0) (rest := []) (ci := 10) (r := (RX11, TX11, 47)) (by decide +kernel) (sf_X11_scan l g A ty σ3 hok4 hTA hIu6 a k_a (n18) ⟨by omega, by omega⟩ (b2) ⟨by omega, by omega⟩ t7 t9 (by omega)) ⟨co_X11_scan, in_X11, ⟨by decide, by decide, by decide +kernel⟩, Nat.le_of_ble_eq_true rfl, Nat.le_of_ble_eq_true rfl⟩ ml_X11_229 im_X11_scan se_X11_scan (by rw [k_a]; rfl) rfl rfl rfl (Nat.le_of_ble_eq_true rfl) ⟨Nat.zero_le _, Nat.zero_le _⟩ (fun r13 σ14 hpo12 hok15 => ?_)
  obtain ⟨rfl, hIu16, hFu16, xu16⟩ := hpo12
  have hGu16 := hGu6.tr hFu16 (by decide +kernel) (by decide +kernel)
  have t17 : σ14 a 18 = n18 := (hFu16.at k_a (by decide +kernel) (by decide +kernel)).trans t7
  clear hJ2 hJ3
  obtain ⟨c1u16, c2u16, chu16, e19u16, e20u16, e21u16, j1u16, j2u16, j3u16, j4u16⟩ := xu16
  refine sv_same (st2 := []) (lv2 := [(0, sv_r a), (1, sv_i lo), (2, sv_i hi), (3, sv_i vu6)]) rfl rfl ?_
  refine sv_go C.1 C.2.1 [(.iload_n 3, 1)] (pc' := 12) (by decide +kernel) rfl (lv' := [(0, sv_r a), (1, sv_i lo), (2, sv_i hi), (3, sv_i vu6)]) (st' := [sv_i vu6]) rfl ?_
  exact st_of (sv_iret C hr (by decide +kernel) hok15 (⟨⟨_, rfl, ⟨by omega, by omega⟩, fun _ _ => (by omega)⟩, hIu16, hGu16, _, _, _, e19u16, e20u16, e21u16, by omega, by omega, by omega, by omega⟩))

set_option maxHeartbeats 4000000 in
set_option maxRecDepth 100000 in
theorem sf_X11_need (l : Launch) (g : sv_G) (A : Nat → Prop) (ty : Nat → Nat) (σ : Nat → Nat → Int) (hok : sv_ok ty σ) (hTA : ∀ q, ty q ≠ 0 → A q) (hI : sv_inv sp_1 ty σ) (a : Nat) (k_a : ty a = 10) (w : Nat) (h_w : w < 23) (n18 : Int) (h_n18 : 0 ≤ n18 ∧ n18 ≤ 4000) (b1 : Int) (h_b1 : 0 ≤ b1 ∧ b1 ≤ 4000) (b2 : Int) (h_b2 : 0 ≤ b2 ∧ b2 ≤ 4000) (hh : Int) (h_hh : 0 ≤ hh ∧ hh ≤ 4) (e18 : σ a 18 = n18) (e19 : σ a 19 = b1) (e20 : σ a 20 = b2) (e21 : σ a 21 = hh) (hJ1 : b1 ≤ b2 ∧ b2 ≤ n18) (hJ2 : hh = 0 ∨ b1 < b2) (hJ3 : hh ≠ 1 ∨ b2 ≤ b1 + 12) : st_M l yX11_need cX11_need 2 none { frames := 5, cells := 0, slots := 0, locals := 108 } g A ty σ [sv_r a, sv_r (g.2.2.2.2.1 w)] (fun r σ' => (r = []) ∧ sv_inv sp_1 ty σ' ∧ sv_ofx [(10, 19), (10, 20), (10, 21), (10, 22), (10, 23), (10, 24)] [] ty σ σ' ∧ ∃ c1 c2 hc : Int, σ' a 19 = c1 ∧ σ' a 20 = c2 ∧ σ' a 21 = hc ∧ (b1 ≤ c1 ∧ c1 ≤ c2 ∧ c2 ≤ n18) ∧ (0 ≤ hc ∧ hc ≤ 4) ∧ (hc = 0 ∨ c1 < c2) ∧ (hc ≠ 1 ∨ c2 ≤ c1 + 12)) (fun x σ' => ty x = 11 ∧ sv_inv sp_1 ty σ' ∧ sv_ofx [(10, 19), (10, 20), (10, 21), (10, 22), (10, 23), (10, 24)] [] ty σ σ') := by
  refine st_enter (by decide) (Nat.le_of_ble_eq_true rfl) ?_
  intro p e s m args below meth c C hr hE
  have C : sv_C g A RX11 cX11_need 2 p s m args meth c := C
  have hr : meth.sig.returnType = none := hr
  have hF : sv_ofx [(10, 19), (10, 20), (10, 21), (10, 22), (10, 23), (10, 24)] [] ty σ σ := sv_ofx.rf
  refine sv_same (st2 := []) (lv2 := [(0, sv_r a), (1, sv_r (g.2.2.2.2.1 w))]) rfl rfl ?_
  refine sv_go C.1 C.2.1 [(.aload_n 0, 1), (.aload_n 1, 1)] (pc' := 2) (by decide +kernel) rfl (lv' := [(0, sv_r a), (1, sv_r (g.2.2.2.2.1 w))]) (st' := [sv_r (g.2.2.2.2.1 w), sv_r a]) rfl ?_
  refine sv_cv C (index := 208) (k := 1) (rest := []) (ci := 10) (r := (RX11, TX11, 47)) (by decide +kernel) (sf_X11_is l g A ty σ hok hTA hI a k_a w h_w (n18) ⟨by omega, by omega⟩ (b1) ⟨by omega, by omega⟩ (b2) ⟨by omega, by omega⟩ (hh) ⟨by omega, by omega⟩ e18 e19 e20 e21 (by omega) (by omega) (by omega)) ⟨co_X11_is, in_X11, ⟨by decide, by decide, by decide +kernel⟩, Nat.le_of_ble_eq_true rfl, Nat.le_of_ble_eq_true rfl⟩ ml_X11_208 im_X11_is se_X11_is (by rw [k_a]; rfl) rfl rfl rfl (Nat.le_of_ble_eq_true rfl) ⟨Nat.zero_le _, Nat.zero_le _⟩ (fun r2 σ3 hpo1 hok4 => ?_)
  obtain ⟨rfl, ⟨vu5, rfl, hvu5, ivu5_0⟩⟩ := hpo1
  replace ivu5_0 := zq_mk ivu5_0
  refine sv_same (st2 := [sv_i vu5]) (lv2 := [(0, sv_r a), (1, sv_r (g.2.2.2.2.1 w))]) rfl rfl ?_
  refine sv_if C.1 C.2.1 (cnd := .ne) (off := 9) (tgt := 14) (by decide +kernel) (by decide) ⟨by omega, by omega⟩ (fun (h6 : vu5 ≠ 0) => ?_) (fun (h6 : ¬ (vu5 ≠ 0)) => ?_)
  · have hp7 := zq_un ivu5_0 (by omega) (by omega)
    refine sv_go C.1 C.2.1 [(.aload_n 0, 1)] (pc' := 15) (by decide +kernel) rfl (lv' := [(0, sv_r a), (1, sv_r (g.2.2.2.2.1 w))]) (st' := [sv_r a]) rfl ?_
    refine sv_cv C (index := 229) (k := 0) (rest := []) (ci := 10) (r := (RX11, TX11, 47)) (by decide +kernel) (sf_X11_scan l g A ty σ hok4 hTA hI a k_a (n18) ⟨by omega, by omega⟩ (b2) ⟨by omega, by omega⟩ e18 e20 (by omega)) ⟨co_X11_scan, in_X11, ⟨by decide, by decide, by decide +kernel⟩, Nat.le_of_ble_eq_true rfl, Nat.le_of_ble_eq_true rfl⟩ ml_X11_229 im_X11_scan se_X11_scan (by rw [k_a]; rfl) rfl rfl rfl (Nat.le_of_ble_eq_true rfl) ⟨Nat.zero_le _, Nat.zero_le _⟩ (fun r9 σ10 hpo8 hok11 => ?_)
    obtain ⟨rfl, hIu12, hFu12, xu12⟩ := hpo8
    have hGu12 := hF.tr hFu12 (by decide +kernel) (by decide +kernel)
    have t13 : σ10 a 18 = n18 := (hFu12.at k_a (by decide +kernel) (by decide +kernel)).trans e18
    have hltu12 : b1 < b2 := by omega
    clear hJ2 hJ3
    obtain ⟨c1u12, c2u12, chu12, e19u12, e20u12, e21u12, j1u12, j2u12, j3u12, j4u12⟩ := xu12
    refine sv_same (st2 := []) (lv2 := [(0, sv_r a), (1, sv_r (g.2.2.2.2.1 w))]) rfl rfl ?_
    exact st_of (sv_vret C hr (by decide +kernel) hok11 (⟨rfl, hIu12, hGu12, _, _, _, e19u12, e20u12, e21u12, by omega, by omega, by omega, by omega⟩))
  · refine sv_go C.1 C.2.1 [(.aload_n 0, 1), (.iconst 1, 1)] (pc' := 10) (by decide +kernel) rfl (lv' := [(0, sv_r a), (1, sv_r (g.2.2.2.2.1 w))]) (st' := [sv_i 1, sv_r a]) rfl ?_
    refine sv_cv C (index := 225) (k := 1) (rest := []) (ci := 10) (r := (RX11, TX11, 47)) (by decide +kernel) (sf_X11_wrong l g A ty σ hok4 hTA hI a k_a (1) ⟨by omega, by omega⟩) ⟨co_X11_wrong, in_X11, ⟨by decide, by decide, by decide +kernel⟩, Nat.le_of_ble_eq_true rfl, Nat.le_of_ble_eq_true rfl⟩ ml_X11_225 im_X11_wrong se_X11_wrong (by rw [k_a]; rfl) rfl rfl rfl (Nat.le_of_ble_eq_true rfl) ⟨Nat.zero_le _, Nat.zero_le _⟩ (fun r15 σ16 hpo14 hok17 => ?_)
    obtain ⟨⟨qu18, rfl, kqu18⟩, hIu18, hFu18⟩ := hpo14
    have hGu18 := hF.tr hFu18 (by decide +kernel) (by decide +kernel)
    have t19 : σ16 a 18 = n18 := (hFu18.at k_a (by decide +kernel) (by decide +kernel)).trans e18
    have t20 : σ16 a 19 = b1 := (hFu18.at k_a (by decide +kernel) (by decide +kernel)).trans e19
    have t21 : σ16 a 20 = b2 := (hFu18.at k_a (by decide +kernel) (by decide +kernel)).trans e20
    have t22 : σ16 a 21 = hh := (hFu18.at k_a (by decide +kernel) (by decide +kernel)).trans e21
    refine sv_same (st2 := [sv_r qu18]) (lv2 := [(0, sv_r a), (1, sv_r (g.2.2.2.2.1 w))]) rfl rfl ?_
    exact st_throw C hE (by decide +kernel) hok17 ⟨kqu18, hIu18, hGu18⟩
