theorem ml_X11_196 : Cond.methodLink RX11 196 yJ0_length_8abf5 ∈ lw_good := sv_mem 1297 (by decide +kernel) rfl
theorem ml_X11_202 : Cond.methodLink RX11 202 yJ0_charAt_5068e ∈ lw_good := sv_mem 1298 (by decide +kernel) rfl
set_option maxHeartbeats 4000000 in
set_option maxRecDepth 100000 in
theorem sf_X11_is (l : Launch) (g : sv_G) (A : Nat → Prop) (ty : Nat → Nat) (σ : Nat → Nat → Int) (hok : sv_ok ty σ) (hTA : ∀ q, ty q ≠ 0 → A q) (hI : sv_inv sp_1 ty σ) (a : Nat) (k_a : ty a = 10) (w : Nat) (h_w : w < 23) (n18 : Int) (h_n18 : 0 ≤ n18 ∧ n18 ≤ 4000) (b1 : Int) (h_b1 : 0 ≤ b1 ∧ b1 ≤ 4000) (b2 : Int) (h_b2 : 0 ≤ b2 ∧ b2 ≤ 4000) (hh : Int) (h_hh : 0 ≤ hh ∧ hh ≤ 4) (e18 : σ a 18 = n18) (e19 : σ a 19 = b1) (e20 : σ a 20 = b2) (e21 : σ a 21 = hh) (hJ1 : b1 ≤ b2 ∧ b2 ≤ n18) (hJ2 : hh = 0 ∨ b1 < b2) (hJ3 : hh ≠ 1 ∨ b2 ≤ b1 + 12) : sv_M l yX11_is cX11_is 4 (some .boolean) { frames := 4, cells := 0, slots := 0, locals := 85 } g A ty σ [sv_r a, sv_r (g.2.2.2.2.1 w)] (fun r σ' => σ = σ' ∧ ∃ rv : Int, r = [sv_i rv] ∧ (0 ≤ rv ∧ rv ≤ 1) ∧ (1 ≤ rv → rv ≤ 1 → hh = 1)) := by
  refine sv_enter (by decide) (Nat.le_of_ble_eq_true rfl) ?_
  intro p e s m args below meth c C hr
  have C : sv_C g A RX11 cX11_is 4 p s m args meth c := C
  have hr : meth.sig.returnType = (some .boolean) := hr
  have hF : sv_ofx [] [] ty σ σ := sv_ofx.rf
  refine sv_same (st2 := []) (lv2 := [(0, sv_r a), (1, sv_r (g.2.2.2.2.1 w))]) rfl rfl ?_
  refine sv_go C.1 C.2.1 [(.aload_n 0, 1)] (pc' := 1) (by decide +kernel) rfl (lv' := [(0, sv_r a), (1, sv_r (g.2.2.2.2.1 w))]) (st' := [sv_r a]) rfl ?_
  refine sv_gf C (index := 184) (ci := 10) (k := 21) (r := (RX11, TX11, 47)) (v := sv_i hh) (by decide +kernel) (by rw [k_a]; rfl) rfl (by decide) fl_X11_184 (congrArg sv_i e21) ?_
  refine sv_go C.1 C.2.1 [(.iconst 1, 1)] (pc' := 5) (by decide +kernel) rfl (lv' := [(0, sv_r a), (1, sv_r (g.2.2.2.2.1 w))]) (st' := [sv_i 1, sv_i hh]) rfl ?_
  refine sv_icmp C.1 C.2.1 (cnd := .ne) (off := 23) (tgt := 28) (by decide +kernel) (by decide) ⟨by omega, by omega⟩ ⟨by omega, by omega⟩ (fun (h1 : hh ≠ 1) => ?_) (fun (h1 : ¬ (hh ≠ 1)) => ?_)
  · refine sv_go C.1 C.2.1 [(.iconst 0, 1), (.istore_n 2, 1), (.iconst 0, 1), (.istore_n 3, 1)] (pc' := 32) (by decide +kernel) rfl (lv' := [(0, sv_r a), (1, sv_r (g.2.2.2.2.1 w)), (2, sv_i 0), (3, sv_i 0)]) (st' := []) rfl ?_
    have L3 : ∀ (n : Nat) (Xg2_l2 : Int) (Xg2_l3 : Int), (0 ≤ Xg2_l2 ∧ Xg2_l2 ≤ 0) → (0 ≤ Xg2_l3 ∧ Xg2_l3 ≤ 0) → (Xg2_l2 = 0 ∨ (hh = 1 ∧ b2 = b1 + (sq_n w : Int))) → (0) < (n : Int) → sv_E p l e { frames := 4, cells := 0, slots := 0, locals := 85 } s m args below meth c 4 g A ty (fun r σ' => σ = σ' ∧ ∃ rv : Int, r = [sv_i rv] ∧ (0 ≤ rv ∧ rv ≤ 1) ∧ (1 ≤ rv → rv ≤ 1 → hh = 1)) σ 32 [(0, sv_r a), (1, sv_r (g.2.2.2.2.1 w)), (2, sv_i Xg2_l2), (3, sv_i Xg2_l3)] [] := by
      intro n
      induction n with
      | zero => intro Xg2_l2 Xg2_l3 hXg2_l2 hXg2_l3 hq hmu; exact absurd hmu (by omega)
      | succ n ih4 =>
        intro Xg2_l2 Xg2_l3 hXg2_l2 hXg2_l3 hq hmu
        refine sv_go C.1 C.2.1 [(.iload_n 3, 1), (.aload_n 1, 1)] (pc' := 34) (by decide +kernel) rfl (lv' := [(0, sv_r a), (1, sv_r (g.2.2.2.2.1 w)), (2, sv_i Xg2_l2), (3, sv_i Xg2_l3)]) (st' := [sv_r (g.2.2.2.2.1 w), sv_i Xg2_l3]) rfl ?_
        have hn9 := sq_n_in w
        refine sq_cv C h_w (index := 196) (k := 0) (as := []) (rest := [sv_i Xg2_l3]) (by decide +kernel) (sq_length l g A ty σ hok w h_w) ⟨co_J0_length_8abf5, in_J0, ⟨by decide, by decide, by decide +kernel⟩, Nat.le_of_ble_eq_true rfl, Nat.le_of_ble_eq_true rfl⟩ ml_X11_196 im_J0_length_8abf5 se_J0_length_8abf5 rfl rfl (Nat.le_of_ble_eq_true rfl) ⟨Nat.zero_le _, Nat.zero_le _⟩ (fun r6 σ7 hpo5 hok8 => ?_)
        obtain ⟨rfl, rfl⟩ := hpo5
        refine sv_same (st2 := [sv_i ((sq_n w : Int)), sv_i Xg2_l3]) (lv2 := [(0, sv_r a), (1, sv_r (g.2.2.2.2.1 w)), (2, sv_i Xg2_l2), (3, sv_i Xg2_l3)]) rfl rfl ?_
        refine sv_icmp C.1 C.2.1 (cnd := .ge) (off := 38) (tgt := 75) (by decide +kernel) (by decide) ⟨by omega, by omega⟩ ⟨by omega, by omega⟩ (fun (h10 : ((sq_n w : Int)) ≤ Xg2_l3) => ?_) (fun (h10 : ¬ (((sq_n w : Int)) ≤ Xg2_l3)) => ?_)
        · refine sv_go C.1 C.2.1 [(.iload_n 2, 1)] (pc' := 76) (by decide +kernel) rfl (lv' := [(0, sv_r a), (1, sv_r (g.2.2.2.2.1 w)), (2, sv_i Xg2_l2), (3, sv_i Xg2_l3)]) (st' := [sv_i Xg2_l2]) rfl ?_
          exact sv_zret C hr (by omega) (by decide +kernel) hok8 (⟨rfl, ⟨_, rfl, ⟨by omega, by omega⟩, fun _ _ => (by omega)⟩⟩)
        · refine sv_go C.1 C.2.1 [(.iload_n 2, 1)] (pc' := 41) (by decide +kernel) rfl (lv' := [(0, sv_r a), (1, sv_r (g.2.2.2.2.1 w)), (2, sv_i Xg2_l2), (3, sv_i Xg2_l3)]) (st' := [sv_i Xg2_l2]) rfl ?_
          refine sv_if_t C.1 C.2.1 (cnd := .eq) (off := 34) (tgt := 75) (by decide +kernel) (by decide) ⟨by omega, by omega⟩ (show Xg2_l2 = 0 by omega) ?_
          refine sv_go C.1 C.2.1 [(.iload_n 2, 1)] (pc' := 76) (by decide +kernel) rfl (lv' := [(0, sv_r a), (1, sv_r (g.2.2.2.2.1 w)), (2, sv_i Xg2_l2), (3, sv_i Xg2_l3)]) (st' := [sv_i Xg2_l2]) rfl ?_
          exact sv_zret C hr (by omega) (by decide +kernel) hok8 (⟨rfl, ⟨_, rfl, ⟨by omega, by omega⟩, fun _ _ => (by omega)⟩⟩)
    exact L3 (((0 : Int)).toNat + 1) 0 0 ⟨by omega, by omega⟩ ⟨by omega, by omega⟩ (by omega) (by omega)
  · refine sv_go C.1 C.2.1 [(.aload_n 0, 1)] (pc' := 9) (by decide +kernel) rfl (lv' := [(0, sv_r a), (1, sv_r (g.2.2.2.2.1 w))]) (st' := [sv_r a]) rfl ?_
    refine sv_gf C (index := 178) (ci := 10) (k := 20) (r := (RX11, TX11, 47)) (v := sv_i b2) (by decide +kernel) (by rw [k_a]; rfl) rfl (by decide) fl_X11_178 (congrArg sv_i e20) ?_
    refine sv_go C.1 C.2.1 [(.aload_n 0, 1)] (pc' := 13) (by decide +kernel) rfl (lv' := [(0, sv_r a), (1, sv_r (g.2.2.2.2.1 w))]) (st' := [sv_r a, sv_i b2]) rfl ?_
    refine sv_gf C (index := 172) (ci := 10) (k := 19) (r := (RX11, TX11, 47)) (v := sv_i b1) (by decide +kernel) (by rw [k_a]; rfl) rfl (by decide) fl_X11_172 (congrArg sv_i e19) ?_
    refine sv_go C.1 C.2.1 [(.isub, 1), (.aload_n 1, 1)] (pc' := 18) (by decide +kernel) rfl (lv' := [(0, sv_r a), (1, sv_r (g.2.2.2.2.1 w))]) (st' := [sv_r (g.2.2.2.2.1 w), sv_i (b2 - b1)]) rfl ?_
    have hn15 := sq_n_in w
    refine sq_cv C h_w (index := 196) (k := 0) (as := []) (rest := [sv_i (b2 - b1)]) (by decide +kernel) (sq_length l g A ty σ hok w h_w) ⟨co_J0_length_8abf5, in_J0, ⟨by decide, by decide, by decide +kernel⟩, Nat.le_of_ble_eq_true rfl, Nat.le_of_ble_eq_true rfl⟩ ml_X11_196 im_J0_length_8abf5 se_J0_length_8abf5 rfl rfl (Nat.le_of_ble_eq_true rfl) ⟨Nat.zero_le _, Nat.zero_le _⟩ (fun r12 σ13 hpo11 hok14 => ?_)
    obtain ⟨rfl, rfl⟩ := hpo11
    refine sv_same (st2 := [sv_i ((sq_n w : Int)), sv_i (b2 - b1)]) (lv2 := [(0, sv_r a), (1, sv_r (g.2.2.2.2.1 w))]) rfl rfl ?_
    refine sv_icmp C.1 C.2.1 (cnd := .ne) (off := 7) (tgt := 28) (by decide +kernel) (by decide) ⟨by omega, by omega⟩ ⟨by omega, by omega⟩ (fun (h16 : (b2 - b1) ≠ ((sq_n w : Int))) => ?_) (fun (h16 : ¬ ((b2 - b1) ≠ ((sq_n w : Int)))) => ?_)
    · refine sv_go C.1 C.2.1 [(.iconst 0, 1), (.istore_n 2, 1), (.iconst 0, 1), (.istore_n 3, 1)] (pc' := 32) (by decide +kernel) rfl (lv' := [(0, sv_r a), (1, sv_r (g.2.2.2.2.1 w)), (2, sv_i 0), (3, sv_i 0)]) (st' := []) rfl ?_
      have L18 : ∀ (n : Nat) (Xg17_l2 : Int) (Xg17_l3 : Int), (0 ≤ Xg17_l2 ∧ Xg17_l2 ≤ 0) → (0 ≤ Xg17_l3 ∧ Xg17_l3 ≤ 0) → (Xg17_l2 = 0 ∨ (hh = 1 ∧ b2 = b1 + (sq_n w : Int))) → (0) < (n : Int) → sv_E p l e { frames := 4, cells := 0, slots := 0, locals := 85 } s m args below meth c 4 g A ty (fun r σ' => σ = σ' ∧ ∃ rv : Int, r = [sv_i rv] ∧ (0 ≤ rv ∧ rv ≤ 1) ∧ (1 ≤ rv → rv ≤ 1 → hh = 1)) σ 32 [(0, sv_r a), (1, sv_r (g.2.2.2.2.1 w)), (2, sv_i Xg17_l2), (3, sv_i Xg17_l3)] [] := by
        intro n
        induction n with
        | zero => intro Xg17_l2 Xg17_l3 hXg17_l2 hXg17_l3 hq hmu; exact absurd hmu (by omega)
        | succ n ih19 =>
          intro Xg17_l2 Xg17_l3 hXg17_l2 hXg17_l3 hq hmu
          refine sv_go C.1 C.2.1 [(.iload_n 3, 1), (.aload_n 1, 1)] (pc' := 34) (by decide +kernel) rfl (lv' := [(0, sv_r a), (1, sv_r (g.2.2.2.2.1 w)), (2, sv_i Xg17_l2), (3, sv_i Xg17_l3)]) (st' := [sv_r (g.2.2.2.2.1 w), sv_i Xg17_l3]) rfl ?_
          have hn24 := sq_n_in w
          refine sq_cv C h_w (index := 196) (k := 0) (as := []) (rest := [sv_i Xg17_l3]) (by decide +kernel) (sq_length l g A ty σ hok14 w h_w) ⟨co_J0_length_8abf5, in_J0, ⟨by decide, by decide, by decide +kernel⟩, Nat.le_of_ble_eq_true rfl, Nat.le_of_ble_eq_true rfl⟩ ml_X11_196 im_J0_length_8abf5 se_J0_length_8abf5 rfl rfl (Nat.le_of_ble_eq_true rfl) ⟨Nat.zero_le _, Nat.zero_le _⟩ (fun r21 σ22 hpo20 hok23 => ?_)
          obtain ⟨rfl, rfl⟩ := hpo20
          refine sv_same (st2 := [sv_i ((sq_n w : Int)), sv_i Xg17_l3]) (lv2 := [(0, sv_r a), (1, sv_r (g.2.2.2.2.1 w)), (2, sv_i Xg17_l2), (3, sv_i Xg17_l3)]) rfl rfl ?_
          refine sv_icmp C.1 C.2.1 (cnd := .ge) (off := 38) (tgt := 75) (by decide +kernel) (by decide) ⟨by omega, by omega⟩ ⟨by omega, by omega⟩ (fun (h25 : ((sq_n w : Int)) ≤ Xg17_l3) => ?_) (fun (h25 : ¬ (((sq_n w : Int)) ≤ Xg17_l3)) => ?_)
          · refine sv_go C.1 C.2.1 [(.iload_n 2, 1)] (pc' := 76) (by decide +kernel) rfl (lv' := [(0, sv_r a), (1, sv_r (g.2.2.2.2.1 w)), (2, sv_i Xg17_l2), (3, sv_i Xg17_l3)]) (st' := [sv_i Xg17_l2]) rfl ?_
            exact sv_zret C hr (by omega) (by decide +kernel) hok23 (⟨rfl, ⟨_, rfl, ⟨by omega, by omega⟩, fun _ _ => (by omega)⟩⟩)
          · refine sv_go C.1 C.2.1 [(.iload_n 2, 1)] (pc' := 41) (by decide +kernel) rfl (lv' := [(0, sv_r a), (1, sv_r (g.2.2.2.2.1 w)), (2, sv_i Xg17_l2), (3, sv_i Xg17_l3)]) (st' := [sv_i Xg17_l2]) rfl ?_
            refine sv_if_t C.1 C.2.1 (cnd := .eq) (off := 34) (tgt := 75) (by decide +kernel) (by decide) ⟨by omega, by omega⟩ (show Xg17_l2 = 0 by omega) ?_
            refine sv_go C.1 C.2.1 [(.iload_n 2, 1)] (pc' := 76) (by decide +kernel) rfl (lv' := [(0, sv_r a), (1, sv_r (g.2.2.2.2.1 w)), (2, sv_i Xg17_l2), (3, sv_i Xg17_l3)]) (st' := [sv_i Xg17_l2]) rfl ?_
            exact sv_zret C hr (by omega) (by decide +kernel) hok23 (⟨rfl, ⟨_, rfl, ⟨by omega, by omega⟩, fun _ _ => (by omega)⟩⟩)
      exact L18 (((0 : Int)).toNat + 1) 0 0 ⟨by omega, by omega⟩ ⟨by omega, by omega⟩ (by omega) (by omega)
    · refine sv_go C.1 C.2.1 [(.iconst 1, 1)] (pc' := 25) (by decide +kernel) rfl (lv' := [(0, sv_r a), (1, sv_r (g.2.2.2.2.1 w))]) (st' := [sv_i 1]) rfl ?_
      refine sv_goto C.1 C.2.1 (off := 4) (tgt := 29) (by decide +kernel) (by decide) ?_
      refine sv_go C.1 C.2.1 [(.istore_n 2, 1), (.iconst 0, 1), (.istore_n 3, 1)] (pc' := 32) (by decide +kernel) rfl (lv' := [(0, sv_r a), (1, sv_r (g.2.2.2.2.1 w)), (2, sv_i 1), (3, sv_i 0)]) (st' := []) rfl ?_
      have L27 : ∀ (n : Nat) (Xg26_l2 : Int) (Xg26_l3 : Int), (0 ≤ Xg26_l2 ∧ Xg26_l2 ≤ 1) → (0 ≤ Xg26_l3 ∧ Xg26_l3 ≤ 12) → (Xg26_l2 = 0 ∨ (hh = 1 ∧ b2 = b1 + (sq_n w : Int))) → (12 - Xg26_l3) < (n : Int) → sv_E p l e { frames := 4, cells := 0, slots := 0, locals := 85 } s m args below meth c 4 g A ty (fun r σ' => σ = σ' ∧ ∃ rv : Int, r = [sv_i rv] ∧ (0 ≤ rv ∧ rv ≤ 1) ∧ (1 ≤ rv → rv ≤ 1 → hh = 1)) σ 32 [(0, sv_r a), (1, sv_r (g.2.2.2.2.1 w)), (2, sv_i Xg26_l2), (3, sv_i Xg26_l3)] [] := by
        intro n
        induction n with
        | zero => intro Xg26_l2 Xg26_l3 hXg26_l2 hXg26_l3 hq hmu; exact absurd hmu (by omega)
        | succ n ih28 =>
          intro Xg26_l2 Xg26_l3 hXg26_l2 hXg26_l3 hq hmu
          refine sv_go C.1 C.2.1 [(.iload_n 3, 1), (.aload_n 1, 1)] (pc' := 34) (by decide +kernel) rfl (lv' := [(0, sv_r a), (1, sv_r (g.2.2.2.2.1 w)), (2, sv_i Xg26_l2), (3, sv_i Xg26_l3)]) (st' := [sv_r (g.2.2.2.2.1 w), sv_i Xg26_l3]) rfl ?_
          have hn33 := sq_n_in w
          refine sq_cv C h_w (index := 196) (k := 0) (as := []) (rest := [sv_i Xg26_l3]) (by decide +kernel) (sq_length l g A ty σ hok14 w h_w) ⟨co_J0_length_8abf5, in_J0, ⟨by decide, by decide, by decide +kernel⟩, Nat.le_of_ble_eq_true rfl, Nat.le_of_ble_eq_true rfl⟩ ml_X11_196 im_J0_length_8abf5 se_J0_length_8abf5 rfl rfl (Nat.le_of_ble_eq_true rfl) ⟨Nat.zero_le _, Nat.zero_le _⟩ (fun r30 σ31 hpo29 hok32 => ?_)
          obtain ⟨rfl, rfl⟩ := hpo29
          refine sv_same (st2 := [sv_i ((sq_n w : Int)), sv_i Xg26_l3]) (lv2 := [(0, sv_r a), (1, sv_r (g.2.2.2.2.1 w)), (2, sv_i Xg26_l2), (3, sv_i Xg26_l3)]) rfl rfl ?_
          refine sv_icmp C.1 C.2.1 (cnd := .ge) (off := 38) (tgt := 75) (by decide +kernel) (by decide) ⟨by omega, by omega⟩ ⟨by omega, by omega⟩ (fun (h34 : ((sq_n w : Int)) ≤ Xg26_l3) => ?_) (fun (h34 : ¬ (((sq_n w : Int)) ≤ Xg26_l3)) => ?_)
          · refine sv_go C.1 C.2.1 [(.iload_n 2, 1)] (pc' := 76) (by decide +kernel) rfl (lv' := [(0, sv_r a), (1, sv_r (g.2.2.2.2.1 w)), (2, sv_i Xg26_l2), (3, sv_i Xg26_l3)]) (st' := [sv_i Xg26_l2]) rfl ?_
            exact sv_zret C hr (by omega) (by decide +kernel) hok32 (⟨rfl, ⟨_, rfl, ⟨by omega, by omega⟩, fun _ _ => (by omega)⟩⟩)
          · refine sv_go C.1 C.2.1 [(.iload_n 2, 1)] (pc' := 41) (by decide +kernel) rfl (lv' := [(0, sv_r a), (1, sv_r (g.2.2.2.2.1 w)), (2, sv_i Xg26_l2), (3, sv_i Xg26_l3)]) (st' := [sv_i Xg26_l2]) rfl ?_
            refine sv_if C.1 C.2.1 (cnd := .eq) (off := 34) (tgt := 75) (by decide +kernel) (by decide) ⟨by omega, by omega⟩ (fun (h35 : Xg26_l2 = 0) => ?_) (fun (h35 : ¬ (Xg26_l2 = 0)) => ?_)
            · refine sv_go C.1 C.2.1 [(.iload_n 2, 1)] (pc' := 76) (by decide +kernel) rfl (lv' := [(0, sv_r a), (1, sv_r (g.2.2.2.2.1 w)), (2, sv_i Xg26_l2), (3, sv_i Xg26_l3)]) (st' := [sv_i Xg26_l2]) rfl ?_
              exact sv_zret C hr (by omega) (by decide +kernel) hok32 (⟨rfl, ⟨_, rfl, ⟨by omega, by omega⟩, fun _ _ => (by omega)⟩⟩)
            · refine sv_go C.1 C.2.1 [(.aload_n 0, 1)] (pc' := 45) (by decide +kernel) rfl (lv' := [(0, sv_r a), (1, sv_r (g.2.2.2.2.1 w)), (2, sv_i Xg26_l2), (3, sv_i Xg26_l3)]) (st' := [sv_r a]) rfl ?_
              obtain ⟨v36, ev36, kv36⟩ := hI.ref (k := 16) k_a rfl
              refine sv_gf C (index := 102) (ci := 10) (k := 16) (r := (RX11, TX11, 47)) (v := sv_r v36) (by decide +kernel) (by rw [k_a]; rfl) rfl (by decide) fl_X11_102 (congrArg sv_a ev36) ?_
              refine sv_go C.1 C.2.1 [(.aload_n 0, 1)] (pc' := 49) (by decide +kernel) rfl (lv' := [(0, sv_r a), (1, sv_r (g.2.2.2.2.1 w)), (2, sv_i Xg26_l2), (3, sv_i Xg26_l3)]) (st' := [sv_r a, sv_r v36]) rfl ?_
              refine sv_gf C (index := 172) (ci := 10) (k := 19) (r := (RX11, TX11, 47)) (v := sv_i b1) (by decide +kernel) (by rw [k_a]; rfl) rfl (by decide) fl_X11_172 (congrArg sv_i e19) ?_
              refine sv_go C.1 C.2.1 [(.iload_n 3, 1), (.iadd, 1)] (pc' := 54) (by decide +kernel) rfl (lv' := [(0, sv_r a), (1, sv_r (g.2.2.2.2.1 w)), (2, sv_i Xg26_l2), (3, sv_i Xg26_l3)]) (st' := [sv_i (b1 + Xg26_l3), sv_r v36]) rfl ?_
              refine sv_ba C (n := 4000) (by decide +kernel) (by rw [kv36]; rfl) (by decide) (by omega) (by omega) ?_
              obtain ⟨v37, ev37, hv37⟩ := sv_rdeb hok32 (a := v36) (k := (b1 + Xg26_l3 : Int).toNat) (n := 4000) (by rw [kv36]; rfl) (by omega)
              rw [ev37]
              refine sv_go C.1 C.2.1 [(.aload_n 1, 1), (.iload_n 3, 1)] (pc' := 57) (by decide +kernel) rfl (lv' := [(0, sv_r a), (1, sv_r (g.2.2.2.2.1 w)), (2, sv_i Xg26_l2), (3, sv_i Xg26_l3)]) (st' := [sv_i Xg26_l3, sv_r (g.2.2.2.2.1 w), sv_i v37]) rfl ?_
              have hn42 := sq_n_in w
              refine sq_cv C h_w (index := 202) (k := 1) (as := [sv_i Xg26_l3]) (rest := [sv_i v37]) (by decide +kernel) (sq_charAt l g A ty σ hok32 w h_w (Xg26_l3) ⟨by omega, by omega⟩) ⟨co_J0_charAt_5068e, in_J0, ⟨by decide, by decide, by decide +kernel⟩, Nat.le_of_ble_eq_true rfl, Nat.le_of_ble_eq_true rfl⟩ ml_X11_202 im_J0_charAt_5068e se_J0_charAt_5068e rfl rfl (Nat.le_of_ble_eq_true rfl) ⟨Nat.zero_le _, Nat.zero_le _⟩ (fun r39 σ40 hpo38 hok41 => ?_)
              obtain ⟨rfl, v43, rfl, hv43⟩ := hpo38
              refine sv_same (st2 := [sv_i v43, sv_i v37]) (lv2 := [(0, sv_r a), (1, sv_r (g.2.2.2.2.1 w)), (2, sv_i Xg26_l2), (3, sv_i Xg26_l3)]) rfl rfl ?_
              have J46 : ∀ (Jg45_s0 : Int), (0 ≤ Jg45_s0 ∧ Jg45_s0 ≤ 1) → sv_E p l e { frames := 4, cells := 0, slots := 0, locals := 85 } s m args below meth c 4 g A ty (fun r σ' => σ = σ' ∧ ∃ rv : Int, r = [sv_i rv] ∧ (0 ≤ rv ∧ rv ≤ 1) ∧ (1 ≤ rv → rv ≤ 1 → hh = 1)) σ 68 [(0, sv_r a), (1, sv_r (g.2.2.2.2.1 w)), (3, sv_i Xg26_l3)] [sv_i Jg45_s0] := by
                intro Jg45_s0 hJg45_s0
                refine sv_go C.1 C.2.1 [(.istore_n 2, 1), (.iinc 3 1, 3)] (pc' := 72) (by decide +kernel) rfl (lv' := [(0, sv_r a), (1, sv_r (g.2.2.2.2.1 w)), (2, sv_i Jg45_s0), (3, sv_i (Xg26_l3 + 1))]) (st' := []) rfl ?_
                refine sv_goto C.1 C.2.1 (off := (-40)) (tgt := 32) (by decide +kernel) (by decide) ?_
                exact ih28 Jg45_s0 (Xg26_l3 + 1) ⟨by omega, by omega⟩ ⟨by omega, by omega⟩ (by omega) (by omega)
              refine sv_icmp C.1 C.2.1 (cnd := .ne) (off := 7) (tgt := 67) (by decide +kernel) (by decide) ⟨by omega, by omega⟩ ⟨by omega, by omega⟩ (fun (h44 : v37 ≠ v43) => ?_) (fun (h44 : ¬ (v37 ≠ v43)) => ?_)
              · refine sv_go C.1 C.2.1 [(.iconst 0, 1)] (pc' := 68) (by decide +kernel) rfl (lv' := [(0, sv_r a), (1, sv_r (g.2.2.2.2.1 w)), (2, sv_i Xg26_l2), (3, sv_i Xg26_l3)]) (st' := [sv_i 0]) rfl ?_
                refine sv_pick [0, 1, 3] (lv2 := [(0, sv_r a), (1, sv_r (g.2.2.2.2.1 w)), (3, sv_i Xg26_l3)]) rfl ?_
                exact J46 0 ⟨by omega, by omega⟩
              · refine sv_go C.1 C.2.1 [(.iconst 1, 1)] (pc' := 64) (by decide +kernel) rfl (lv' := [(0, sv_r a), (1, sv_r (g.2.2.2.2.1 w)), (2, sv_i Xg26_l2), (3, sv_i Xg26_l3)]) (st' := [sv_i 1]) rfl ?_
                refine sv_goto C.1 C.2.1 (off := 4) (tgt := 68) (by decide +kernel) (by decide) ?_
                refine sv_pick [0, 1, 3] (lv2 := [(0, sv_r a), (1, sv_r (g.2.2.2.2.1 w)), (3, sv_i Xg26_l3)]) rfl ?_
                exact J46 1 ⟨by omega, by omega⟩
      exact L27 (((12 - 0 : Int)).toNat + 1) 1 0 ⟨by omega, by omega⟩ ⟨by omega, by omega⟩ (by omega) (by omega)

set_option maxHeartbeats 4000000 in
set_option maxRecDepth 100000 in
theorem sf_X11_isSign (l : Launch) (g : sv_G) (A : Nat → Prop) (ty : Nat → Nat) (σ : Nat → Nat → Int) (hok : sv_ok ty σ) (hTA : ∀ q, ty q ≠ 0 → A q) (hI : sv_inv sp_1 ty σ) (a : Nat) (k_a : ty a = 10) (v : Int) (h_v : (-2147483648) ≤ v ∧ v ≤ 2147483647) (n18 : Int) (h_n18 : 0 ≤ n18 ∧ n18 ≤ 4000) (b1 : Int) (h_b1 : 0 ≤ b1 ∧ b1 ≤ 4000) (b2 : Int) (h_b2 : 0 ≤ b2 ∧ b2 ≤ 4000) (hh : Int) (h_hh : 0 ≤ hh ∧ hh ≤ 4) (e18 : σ a 18 = n18) (e19 : σ a 19 = b1) (e20 : σ a 20 = b2) (e21 : σ a 21 = hh) (hJ1 : b1 ≤ b2 ∧ b2 ≤ n18) (hJ2 : hh = 0 ∨ b1 < b2) (hJ3 : hh ≠ 1 ∨ b2 ≤ b1 + 12) : sv_M l yX11_isSign cX11_isSign 2 (some .boolean) { frames := 0, cells := 0, slots := 0, locals := 0 } g A ty σ [sv_r a, sv_i v] (fun r σ' => σ = σ' ∧ ∃ rv : Int, r = [sv_i rv] ∧ (0 ≤ rv ∧ rv ≤ 1) ∧ (1 ≤ rv → rv ≤ 1 → hh = 3)) := by
  refine sv_enter (by decide) (Nat.le_of_ble_eq_true rfl) ?_
  intro p e s m args below meth c C hr
  have C : sv_C g A RX11 cX11_isSign 2 p s m args meth c := C
  have hr : meth.sig.returnType = (some .boolean) := hr
  have hF : sv_ofx [] [] ty σ σ := sv_ofx.rf
  refine sv_same (st2 := []) (lv2 := [(0, sv_r a), (1, sv_i v)]) rfl rfl ?_
  refine sv_go C.1 C.2.1 [(.aload_n 0, 1)] (pc' := 1) (by decide +kernel) rfl (lv' := [(0, sv_r a), (1, sv_i v)]) (st' := [sv_r a]) rfl ?_
  refine sv_gf C (index := 184) (ci := 10) (k := 21) (r := (RX11, TX11, 47)) (v := sv_i hh) (by decide +kernel) (by rw [k_a]; rfl) rfl (by decide) fl_X11_184 (congrArg sv_i e21) ?_
  refine sv_go C.1 C.2.1 [(.iconst 3, 1)] (pc' := 5) (by decide +kernel) rfl (lv' := [(0, sv_r a), (1, sv_i v)]) (st' := [sv_i 3, sv_i hh]) rfl ?_
  refine sv_icmp C.1 C.2.1 (cnd := .ne) (off := 20) (tgt := 25) (by decide +kernel) (by decide) ⟨by omega, by omega⟩ ⟨by omega, by omega⟩ (fun (h1 : hh ≠ 3) => ?_) (fun (h1 : ¬ (hh ≠ 3)) => ?_)
  · refine sv_go C.1 C.2.1 [(.iconst 0, 1)] (pc' := 26) (by decide +kernel) rfl (lv' := [(0, sv_r a), (1, sv_i v)]) (st' := [sv_i 0]) rfl ?_
    exact sv_zret C hr (by omega) (by decide +kernel) hok (⟨rfl, ⟨_, rfl, ⟨by omega, by omega⟩, fun _ _ => (by omega)⟩⟩)
  · refine sv_go C.1 C.2.1 [(.aload_n 0, 1)] (pc' := 9) (by decide +kernel) rfl (lv' := [(0, sv_r a), (1, sv_i v)]) (st' := [sv_r a]) rfl ?_
    obtain ⟨v2, ev2, kv2⟩ := hI.ref (k := 16) k_a rfl
    refine sv_gf C (index := 102) (ci := 10) (k := 16) (r := (RX11, TX11, 47)) (v := sv_r v2) (by decide +kernel) (by rw [k_a]; rfl) rfl (by decide) fl_X11_102 (congrArg sv_a ev2) ?_
    refine sv_go C.1 C.2.1 [(.aload_n 0, 1)] (pc' := 13) (by decide +kernel) rfl (lv' := [(0, sv_r a), (1, sv_i v)]) (st' := [sv_r a, sv_r v2]) rfl ?_
    refine sv_gf C (index := 172) (ci := 10) (k := 19) (r := (RX11, TX11, 47)) (v := sv_i b1) (by decide +kernel) (by rw [k_a]; rfl) rfl (by decide) fl_X11_172 (congrArg sv_i e19) ?_
    refine sv_ba C (n := 4000) (by decide +kernel) (by rw [kv2]; rfl) (by decide) (by omega) (by omega) ?_
    obtain ⟨v3, ev3, hv3⟩ := sv_rdeb hok (a := v2) (k := (b1 : Int).toNat) (n := 4000) (by rw [kv2]; rfl) (by omega)
    rw [ev3]
    refine sv_go C.1 C.2.1 [(.iload_n 1, 1)] (pc' := 18) (by decide +kernel) rfl (lv' := [(0, sv_r a), (1, sv_i v)]) (st' := [sv_i v, sv_i v3]) rfl ?_
    refine sv_icmp C.1 C.2.1 (cnd := .ne) (off := 7) (tgt := 25) (by decide +kernel) (by decide) ⟨by omega, by omega⟩ ⟨by omega, by omega⟩ (fun (h4 : v3 ≠ v) => ?_) (fun (h4 : ¬ (v3 ≠ v)) => ?_)
    · refine sv_go C.1 C.2.1 [(.iconst 0, 1)] (pc' := 26) (by decide +kernel) rfl (lv' := [(0, sv_r a), (1, sv_i v)]) (st' := [sv_i 0]) rfl ?_
      exact sv_zret C hr (by omega) (by decide +kernel) hok (⟨rfl, ⟨_, rfl, ⟨by omega, by omega⟩, fun _ _ => (by omega)⟩⟩)
    · refine sv_go C.1 C.2.1 [(.iconst 1, 1)] (pc' := 22) (by decide +kernel) rfl (lv' := [(0, sv_r a), (1, sv_i v)]) (st' := [sv_i 1]) rfl ?_
      refine sv_goto C.1 C.2.1 (off := 4) (tgt := 26) (by decide +kernel) (by decide) ?_
      exact sv_zret C hr (by omega) (by decide +kernel) hok (⟨rfl, ⟨_, rfl, ⟨by omega, by omega⟩, fun _ _ => (by omega)⟩⟩)

theorem ml_X11_208 : Cond.methodLink RX11 208 yX11_is ∈ lw_good := sv_mem 1293 (by decide +kernel) rfl
theorem co_X11_is : Cond.code yX11_is cX11_is 4 (some .boolean) ∈ lw_good := sv_mem 1296 (by decide +kernel) rfl
theorem im_X11_is : Cond.instanceMethod yX11_is ∈ lw_good := sv_mem 1295 (by decide +kernel) rfl
theorem se_X11_is : Cond.selects RX11 yX11_is yX11_is ∈ lw_good := sv_mem 49 (by decide +kernel) rfl
set_option maxHeartbeats 4000000 in
set_option maxRecDepth 100000 in
theorem sf_X11_isQuoted (l : Launch) (g : sv_G) (A : Nat → Prop) (ty : Nat → Nat) (σ : Nat → Nat → Int) (hok : sv_ok ty σ) (hTA : ∀ q, ty q ≠ 0 → A q) (hI : sv_inv sp_1 ty σ) (a : Nat) (k_a : ty a = 10) (n18 : Int) (h_n18 : 0 ≤ n18 ∧ n18 ≤ 4000) (b1 : Int) (h_b1 : 0 ≤ b1 ∧ b1 ≤ 4000) (b2 : Int) (h_b2 : 0 ≤ b2 ∧ b2 ≤ 4000) (hh : Int) (h_hh : 0 ≤ hh ∧ hh ≤ 4) (e18 : σ a 18 = n18) (e19 : σ a 19 = b1) (e20 : σ a 20 = b2) (e21 : σ a 21 = hh) (hJ1 : b1 ≤ b2 ∧ b2 ≤ n18) (hJ2 : hh = 0 ∨ b1 < b2) (hJ3 : hh ≠ 1 ∨ b2 ≤ b1 + 12) : sv_M l yX11_isQuoted cX11_isQuoted 1 (some .boolean) { frames := 5, cells := 0, slots := 0, locals := 108 } g A ty σ [sv_r a] (fun r σ' => σ = σ' ∧ ∃ rv : Int, r = [sv_i rv] ∧ (0 ≤ rv ∧ rv ≤ 1)) := by
  refine sv_enter (by decide) (Nat.le_of_ble_eq_true rfl) ?_
  intro p e s m args below meth c C hr
  have C : sv_C g A RX11 cX11_isQuoted 1 p s m args meth c := C
  have hr : meth.sig.returnType = (some .boolean) := hr
  have hF : sv_ofx [] [] ty σ σ := sv_ofx.rf
  refine sv_same (st2 := []) (lv2 := [(0, sv_r a)]) rfl rfl ?_
  refine sv_go C.1 C.2.1 [(.aload_n 0, 1)] (pc' := 1) (by decide +kernel) rfl (lv' := [(0, sv_r a)]) (st' := [sv_r a]) rfl ?_
  refine sq_ldc C (index := 206) (tx := "fixed") 15 (by decide) rfl (by decide +kernel) ?_
  refine sv_cv C (index := 208) (k := 1) (rest := []) (ci := 10) (r := (RX11, TX11, 47)) (by decide +kernel) (sf_X11_is l g A ty σ hok hTA hI a k_a 15 (by decide) (n18) ⟨by omega, by omega⟩ (b1) ⟨by omega, by omega⟩ (b2) ⟨by omega, by omega⟩ (hh) ⟨by omega, by omega⟩ e18 e19 e20 e21 (by omega) (by omega) (by omega)) ⟨co_X11_is, in_X11, ⟨by decide, by decide, by decide +kernel⟩, Nat.le_of_ble_eq_true rfl, Nat.le_of_ble_eq_true rfl⟩ ml_X11_208 im_X11_is se_X11_is (by rw [k_a]; rfl) rfl rfl rfl (Nat.le_of_ble_eq_true rfl) ⟨Nat.zero_le _, Nat.zero_le _⟩ (fun r2 σ3 hpo1 hok4 => ?_)
  obtain ⟨rfl, ⟨vu5, rfl, hvu5, ivu5_0⟩⟩ := hpo1
  refine sv_same (st2 := [sv_i vu5]) (lv2 := [(0, sv_r a)]) rfl rfl ?_
  refine sv_if C.1 C.2.1 (cnd := .ne) (off := 93) (tgt := 99) (by decide +kernel) (by decide) ⟨by omega, by omega⟩ (fun (h6 : vu5 ≠ 0) => ?_) (fun (h6 : ¬ (vu5 ≠ 0)) => ?_)
  · have hp7 := ivu5_0 (by omega) (by omega)
    refine sv_go C.1 C.2.1 [(.iconst 1, 1)] (pc' := 100) (by decide +kernel) rfl (lv' := [(0, sv_r a)]) (st' := [sv_i 1]) rfl ?_
    refine sv_goto C.1 C.2.1 (off := 4) (tgt := 104) (by decide +kernel) (by decide) ?_
    exact sv_zret C hr (by omega) (by decide +kernel) hok4 (⟨rfl, ⟨_, rfl, ⟨by omega, by omega⟩⟩⟩)
  · refine sv_go C.1 C.2.1 [(.aload_n 0, 1)] (pc' := 10) (by decide +kernel) rfl (lv' := [(0, sv_r a)]) (st' := [sv_r a]) rfl ?_
    refine sq_ldc C (index := 212) (tx := "moved") 16 (by decide) rfl (by decide +kernel) ?_
    refine sv_cv C (index := 208) (k := 1) (rest := []) (ci := 10) (r := (RX11, TX11, 47)) (by decide +kernel) (sf_X11_is l g A ty σ hok4 hTA hI a k_a 16 (by decide) (n18) ⟨by omega, by omega⟩ (b1) ⟨by omega, by omega⟩ (b2) ⟨by omega, by omega⟩ (hh) ⟨by omega, by omega⟩ e18 e19 e20 e21 (by omega) (by omega) (by omega)) ⟨co_X11_is, in_X11, ⟨by decide, by decide, by decide +kernel⟩, Nat.le_of_ble_eq_true rfl, Nat.le_of_ble_eq_true rfl⟩ ml_X11_208 im_X11_is se_X11_is (by rw [k_a]; rfl) rfl rfl rfl (Nat.le_of_ble_eq_true rfl) ⟨Nat.zero_le _, Nat.zero_le _⟩ (fun r9 σ10 hpo8 hok11 => ?_)
    obtain ⟨rfl, ⟨vu12, rfl, hvu12, ivu12_0⟩⟩ := hpo8
    refine sv_same (st2 := [sv_i vu12]) (lv2 := [(0, sv_r a)]) rfl rfl ?_
    refine sv_if C.1 C.2.1 (cnd := .ne) (off := 84) (tgt := 99) (by decide +kernel) (by decide) ⟨by omega, by omega⟩ (fun (h13 : vu12 ≠ 0) => ?_) (fun (h13 : ¬ (vu12 ≠ 0)) => ?_)
    · have hp14 := ivu12_0 (by omega) (by omega)
      refine sv_go C.1 C.2.1 [(.iconst 1, 1)] (pc' := 100) (by decide +kernel) rfl (lv' := [(0, sv_r a)]) (st' := [sv_i 1]) rfl ?_
      refine sv_goto C.1 C.2.1 (off := 4) (tgt := 104) (by decide +kernel) (by decide) ?_
      exact sv_zret C hr (by omega) (by decide +kernel) hok11 (⟨rfl, ⟨_, rfl, ⟨by omega, by omega⟩⟩⟩)
    · refine sv_go C.1 C.2.1 [(.aload_n 0, 1)] (pc' := 19) (by decide +kernel) rfl (lv' := [(0, sv_r a)]) (st' := [sv_r a]) rfl ?_
      refine sq_ldc C (index := 214) (tx := "sunday") 17 (by decide) rfl (by decide +kernel) ?_
      refine sv_cv C (index := 208) (k := 1) (rest := []) (ci := 10) (r := (RX11, TX11, 47)) (by decide +kernel) (sf_X11_is l g A ty σ hok11 hTA hI a k_a 17 (by decide) (n18) ⟨by omega, by omega⟩ (b1) ⟨by omega, by omega⟩ (b2) ⟨by omega, by omega⟩ (hh) ⟨by omega, by omega⟩ e18 e19 e20 e21 (by omega) (by omega) (by omega)) ⟨co_X11_is, in_X11, ⟨by decide, by decide, by decide +kernel⟩, Nat.le_of_ble_eq_true rfl, Nat.le_of_ble_eq_true rfl⟩ ml_X11_208 im_X11_is se_X11_is (by rw [k_a]; rfl) rfl rfl rfl (Nat.le_of_ble_eq_true rfl) ⟨Nat.zero_le _, Nat.zero_le _⟩ (fun r16 σ17 hpo15 hok18 => ?_)
      obtain ⟨rfl, ⟨vu19, rfl, hvu19, ivu19_0⟩⟩ := hpo15
      refine sv_same (st2 := [sv_i vu19]) (lv2 := [(0, sv_r a)]) rfl rfl ?_
      refine sv_if C.1 C.2.1 (cnd := .ne) (off := 75) (tgt := 99) (by decide +kernel) (by decide) ⟨by omega, by omega⟩ (fun (h20 : vu19 ≠ 0) => ?_) (fun (h20 : ¬ (vu19 ≠ 0)) => ?_)
      · have hp21 := ivu19_0 (by omega) (by omega)
        refine sv_go C.1 C.2.1 [(.iconst 1, 1)] (pc' := 100) (by decide +kernel) rfl (lv' := [(0, sv_r a)]) (st' := [sv_i 1]) rfl ?_
        refine sv_goto C.1 C.2.1 (off := 4) (tgt := 104) (by decide +kernel) (by decide) ?_
        exact sv_zret C hr (by omega) (by decide +kernel) hok18 (⟨rfl, ⟨_, rfl, ⟨by omega, by omega⟩⟩⟩)
      · refine sv_go C.1 C.2.1 [(.aload_n 0, 1)] (pc' := 28) (by decide +kernel) rfl (lv' := [(0, sv_r a)]) (st' := [sv_r a]) rfl ?_
        refine sq_ldc C (index := 216) (tx := "rank") 18 (by decide) rfl (by decide +kernel) ?_
        refine sv_cv C (index := 208) (k := 1) (rest := []) (ci := 10) (r := (RX11, TX11, 47)) (by decide +kernel) (sf_X11_is l g A ty σ hok18 hTA hI a k_a 18 (by decide) (n18) ⟨by omega, by omega⟩ (b1) ⟨by omega, by omega⟩ (b2) ⟨by omega, by omega⟩ (hh) ⟨by omega, by omega⟩ e18 e19 e20 e21 (by omega) (by omega) (by omega)) ⟨co_X11_is, in_X11, ⟨by decide, by decide, by decide +kernel⟩, Nat.le_of_ble_eq_true rfl, Nat.le_of_ble_eq_true rfl⟩ ml_X11_208 im_X11_is se_X11_is (by rw [k_a]; rfl) rfl rfl rfl (Nat.le_of_ble_eq_true rfl) ⟨Nat.zero_le _, Nat.zero_le _⟩ (fun r23 σ24 hpo22 hok25 => ?_)
        obtain ⟨rfl, ⟨vu26, rfl, hvu26, ivu26_0⟩⟩ := hpo22
        refine sv_same (st2 := [sv_i vu26]) (lv2 := [(0, sv_r a)]) rfl rfl ?_
        refine sv_if C.1 C.2.1 (cnd := .ne) (off := 66) (tgt := 99) (by decide +kernel) (by decide) ⟨by omega, by omega⟩ (fun (h27 : vu26 ≠ 0) => ?_) (fun (h27 : ¬ (vu26 ≠ 0)) => ?_)
        · have hp28 := ivu26_0 (by omega) (by omega)
          refine sv_go C.1 C.2.1 [(.iconst 1, 1)] (pc' := 100) (by decide +kernel) rfl (lv' := [(0, sv_r a)]) (st' := [sv_i 1]) rfl ?_
          refine sv_goto C.1 C.2.1 (off := 4) (tgt := 104) (by decide +kernel) (by decide) ?_
          exact sv_zret C hr (by omega) (by decide +kernel) hok25 (⟨rfl, ⟨_, rfl, ⟨by omega, by omega⟩⟩⟩)
        · refine sv_go C.1 C.2.1 [(.aload_n 0, 1)] (pc' := 37) (by decide +kernel) rfl (lv' := [(0, sv_r a)]) (st' := [sv_r a]) rfl ?_
          refine sq_ldc C (index := 217) (tx := "vigil") 19 (by decide) rfl (by decide +kernel) ?_
          refine sv_cv C (index := 208) (k := 1) (rest := []) (ci := 10) (r := (RX11, TX11, 47)) (by decide +kernel) (sf_X11_is l g A ty σ hok25 hTA hI a k_a 19 (by decide) (n18) ⟨by omega, by omega⟩ (b1) ⟨by omega, by omega⟩ (b2) ⟨by omega, by omega⟩ (hh) ⟨by omega, by omega⟩ e18 e19 e20 e21 (by omega) (by omega) (by omega)) ⟨co_X11_is, in_X11, ⟨by decide, by decide, by decide +kernel⟩, Nat.le_of_ble_eq_true rfl, Nat.le_of_ble_eq_true rfl⟩ ml_X11_208 im_X11_is se_X11_is (by rw [k_a]; rfl) rfl rfl rfl (Nat.le_of_ble_eq_true rfl) ⟨Nat.zero_le _, Nat.zero_le _⟩ (fun r30 σ31 hpo29 hok32 => ?_)
          obtain ⟨rfl, ⟨vu33, rfl, hvu33, ivu33_0⟩⟩ := hpo29
          refine sv_same (st2 := [sv_i vu33]) (lv2 := [(0, sv_r a)]) rfl rfl ?_
          refine sv_if C.1 C.2.1 (cnd := .ne) (off := 57) (tgt := 99) (by decide +kernel) (by decide) ⟨by omega, by omega⟩ (fun (h34 : vu33 ≠ 0) => ?_) (fun (h34 : ¬ (vu33 ≠ 0)) => ?_)
          · have hp35 := ivu33_0 (by omega) (by omega)
            refine sv_go C.1 C.2.1 [(.iconst 1, 1)] (pc' := 100) (by decide +kernel) rfl (lv' := [(0, sv_r a)]) (st' := [sv_i 1]) rfl ?_
            refine sv_goto C.1 C.2.1 (off := 4) (tgt := 104) (by decide +kernel) (by decide) ?_
            exact sv_zret C hr (by omega) (by decide +kernel) hok32 (⟨rfl, ⟨_, rfl, ⟨by omega, by omega⟩⟩⟩)
          · refine sv_go C.1 C.2.1 [(.aload_n 0, 1)] (pc' := 46) (by decide +kernel) rfl (lv' := [(0, sv_r a)]) (st' := [sv_r a]) rfl ?_
            refine sq_ldc C (index := 218) (tx := "octave") 20 (by decide) rfl (by decide +kernel) ?_
            refine sv_cv C (index := 208) (k := 1) (rest := []) (ci := 10) (r := (RX11, TX11, 47)) (by decide +kernel) (sf_X11_is l g A ty σ hok32 hTA hI a k_a 20 (by decide) (n18) ⟨by omega, by omega⟩ (b1) ⟨by omega, by omega⟩ (b2) ⟨by omega, by omega⟩ (hh) ⟨by omega, by omega⟩ e18 e19 e20 e21 (by omega) (by omega) (by omega)) ⟨co_X11_is, in_X11, ⟨by decide, by decide, by decide +kernel⟩, Nat.le_of_ble_eq_true rfl, Nat.le_of_ble_eq_true rfl⟩ ml_X11_208 im_X11_is se_X11_is (by rw [k_a]; rfl) rfl rfl rfl (Nat.le_of_ble_eq_true rfl) ⟨Nat.zero_le _, Nat.zero_le _⟩ (fun r37 σ38 hpo36 hok39 => ?_)
            obtain ⟨rfl, ⟨vu40, rfl, hvu40, ivu40_0⟩⟩ := hpo36
            refine sv_same (st2 := [sv_i vu40]) (lv2 := [(0, sv_r a)]) rfl rfl ?_
            refine sv_if C.1 C.2.1 (cnd := .ne) (off := 48) (tgt := 99) (by decide +kernel) (by decide) ⟨by omega, by omega⟩ (fun (h41 : vu40 ≠ 0) => ?_) (fun (h41 : ¬ (vu40 ≠ 0)) => ?_)
            · have hp42 := ivu40_0 (by omega) (by omega)
              refine sv_go C.1 C.2.1 [(.iconst 1, 1)] (pc' := 100) (by decide +kernel) rfl (lv' := [(0, sv_r a)]) (st' := [sv_i 1]) rfl ?_
              refine sv_goto C.1 C.2.1 (off := 4) (tgt := 104) (by decide +kernel) (by decide) ?_
              exact sv_zret C hr (by omega) (by decide +kernel) hok39 (⟨rfl, ⟨_, rfl, ⟨by omega, by omega⟩⟩⟩)
            · refine sv_go C.1 C.2.1 [(.aload_n 0, 1)] (pc' := 55) (by decide +kernel) rfl (lv' := [(0, sv_r a)]) (st' := [sv_r a]) rfl ?_
              refine sq_ldc C (index := 219) (tx := "from") 21 (by decide) rfl (by decide +kernel) ?_
              refine sv_cv C (index := 208) (k := 1) (rest := []) (ci := 10) (r := (RX11, TX11, 47)) (by decide +kernel) (sf_X11_is l g A ty σ hok39 hTA hI a k_a 21 (by decide) (n18) ⟨by omega, by omega⟩ (b1) ⟨by omega, by omega⟩ (b2) ⟨by omega, by omega⟩ (hh) ⟨by omega, by omega⟩ e18 e19 e20 e21 (by omega) (by omega) (by omega)) ⟨co_X11_is, in_X11, ⟨by decide, by decide, by decide +kernel⟩, Nat.le_of_ble_eq_true rfl, Nat.le_of_ble_eq_true rfl⟩ ml_X11_208 im_X11_is se_X11_is (by rw [k_a]; rfl) rfl rfl rfl (Nat.le_of_ble_eq_true rfl) ⟨Nat.zero_le _, Nat.zero_le _⟩ (fun r44 σ45 hpo43 hok46 => ?_)
              obtain ⟨rfl, ⟨vu47, rfl, hvu47, ivu47_0⟩⟩ := hpo43
              refine sv_same (st2 := [sv_i vu47]) (lv2 := [(0, sv_r a)]) rfl rfl ?_
              refine sv_if C.1 C.2.1 (cnd := .ne) (off := 39) (tgt := 99) (by decide +kernel) (by decide) ⟨by omega, by omega⟩ (fun (h48 : vu47 ≠ 0) => ?_) (fun (h48 : ¬ (vu47 ≠ 0)) => ?_)
              · have hp49 := ivu47_0 (by omega) (by omega)
                refine sv_go C.1 C.2.1 [(.iconst 1, 1)] (pc' := 100) (by decide +kernel) rfl (lv' := [(0, sv_r a)]) (st' := [sv_i 1]) rfl ?_
                refine sv_goto C.1 C.2.1 (off := 4) (tgt := 104) (by decide +kernel) (by decide) ?_
                exact sv_zret C hr (by omega) (by decide +kernel) hok46 (⟨rfl, ⟨_, rfl, ⟨by omega, by omega⟩⟩⟩)
              · refine sv_go C.1 C.2.1 [(.aload_n 0, 1)] (pc' := 64) (by decide +kernel) rfl (lv' := [(0, sv_r a)]) (st' := [sv_r a]) rfl ?_
                refine sq_ldc C (index := 220) (tx := "till") 22 (by decide) rfl (by decide +kernel) ?_
                refine sv_cv C (index := 208) (k := 1) (rest := []) (ci := 10) (r := (RX11, TX11, 47)) (by decide +kernel) (sf_X11_is l g A ty σ hok46 hTA hI a k_a 22 (by decide) (n18) ⟨by omega, by omega⟩ (b1) ⟨by omega, by omega⟩ (b2) ⟨by omega, by omega⟩ (hh) ⟨by omega, by omega⟩ e18 e19 e20 e21 (by omega) (by omega) (by omega)) ⟨co_X11_is, in_X11, ⟨by decide, by decide, by decide +kernel⟩, Nat.le_of_ble_eq_true rfl, Nat.le_of_ble_eq_true rfl⟩ ml_X11_208 im_X11_is se_X11_is (by rw [k_a]; rfl) rfl rfl rfl (Nat.le_of_ble_eq_true rfl) ⟨Nat.zero_le _, Nat.zero_le _⟩ (fun r51 σ52 hpo50 hok53 => ?_)
                obtain ⟨rfl, ⟨vu54, rfl, hvu54, ivu54_0⟩⟩ := hpo50
                refine sv_same (st2 := [sv_i vu54]) (lv2 := [(0, sv_r a)]) rfl rfl ?_
                refine sv_if C.1 C.2.1 (cnd := .ne) (off := 30) (tgt := 99) (by decide +kernel) (by decide) ⟨by omega, by omega⟩ (fun (h55 : vu54 ≠ 0) => ?_) (fun (h55 : ¬ (vu54 ≠ 0)) => ?_)
                · have hp56 := ivu54_0 (by omega) (by omega)
                  refine sv_go C.1 C.2.1 [(.iconst 1, 1)] (pc' := 100) (by decide +kernel) rfl (lv' := [(0, sv_r a)]) (st' := [sv_i 1]) rfl ?_
                  refine sv_goto C.1 C.2.1 (off := 4) (tgt := 104) (by decide +kernel) (by decide) ?_
                  exact sv_zret C hr (by omega) (by decide +kernel) hok53 (⟨rfl, ⟨_, rfl, ⟨by omega, by omega⟩⟩⟩)
                · refine sv_go C.1 C.2.1 [(.aload_n 0, 1)] (pc' := 73) (by decide +kernel) rfl (lv' := [(0, sv_r a)]) (st' := [sv_r a]) rfl ?_
                  refine sq_ldc C (index := 221) (tx := "yield") 12 (by decide) rfl (by decide +kernel) ?_
                  refine sv_cv C (index := 208) (k := 1) (rest := []) (ci := 10) (r := (RX11, TX11, 47)) (by decide +kernel) (sf_X11_is l g A ty σ hok53 hTA hI a k_a 12 (by decide) (n18) ⟨by omega, by omega⟩ (b1) ⟨by omega, by omega⟩ (b2) ⟨by omega, by omega⟩ (hh) ⟨by omega, by omega⟩ e18 e19 e20 e21 (by omega) (by omega) (by omega)) ⟨co_X11_is, in_X11, ⟨by decide, by decide, by decide +kernel⟩, Nat.le_of_ble_eq_true rfl, Nat.le_of_ble_eq_true rfl⟩ ml_X11_208 im_X11_is se_X11_is (by rw [k_a]; rfl) rfl rfl rfl (Nat.le_of_ble_eq_true rfl) ⟨Nat.zero_le _, Nat.zero_le _⟩ (fun r58 σ59 hpo57 hok60 => ?_)
                  obtain ⟨rfl, ⟨vu61, rfl, hvu61, ivu61_0⟩⟩ := hpo57
                  refine sv_same (st2 := [sv_i vu61]) (lv2 := [(0, sv_r a)]) rfl rfl ?_
                  refine sv_if C.1 C.2.1 (cnd := .ne) (off := 21) (tgt := 99) (by decide +kernel) (by decide) ⟨by omega, by omega⟩ (fun (h62 : vu61 ≠ 0) => ?_) (fun (h62 : ¬ (vu61 ≠ 0)) => ?_)
                  · have hp63 := ivu61_0 (by omega) (by omega)
                    refine sv_go C.1 C.2.1 [(.iconst 1, 1)] (pc' := 100) (by decide +kernel) rfl (lv' := [(0, sv_r a)]) (st' := [sv_i 1]) rfl ?_
                    refine sv_goto C.1 C.2.1 (off := 4) (tgt := 104) (by decide +kernel) (by decide) ?_
                    exact sv_zret C hr (by omega) (by decide +kernel) hok60 (⟨rfl, ⟨_, rfl, ⟨by omega, by omega⟩⟩⟩)
                  · refine sv_go C.1 C.2.1 [(.aload_n 0, 1)] (pc' := 82) (by decide +kernel) rfl (lv' := [(0, sv_r a)]) (st' := [sv_r a]) rfl ?_
                    refine sq_ldc C (index := 223) (tx := "wax") 14 (by decide) rfl (by decide +kernel) ?_
                    refine sv_cv C (index := 208) (k := 1) (rest := []) (ci := 10) (r := (RX11, TX11, 47)) (by decide +kernel) (sf_X11_is l g A ty σ hok60 hTA hI a k_a 14 (by decide) (n18) ⟨by omega, by omega⟩ (b1) ⟨by omega, by omega⟩ (b2) ⟨by omega, by omega⟩ (hh) ⟨by omega, by omega⟩ e18 e19 e20 e21 (by omega) (by omega) (by omega)) ⟨co_X11_is, in_X11, ⟨by decide, by decide, by decide +kernel⟩, Nat.le_of_ble_eq_true rfl, Nat.le_of_ble_eq_true rfl⟩ ml_X11_208 im_X11_is se_X11_is (by rw [k_a]; rfl) rfl rfl rfl (Nat.le_of_ble_eq_true rfl) ⟨Nat.zero_le _, Nat.zero_le _⟩ (fun r65 σ66 hpo64 hok67 => ?_)
                    obtain ⟨rfl, ⟨vu68, rfl, hvu68, ivu68_0⟩⟩ := hpo64
                    refine sv_same (st2 := [sv_i vu68]) (lv2 := [(0, sv_r a)]) rfl rfl ?_
                    refine sv_if C.1 C.2.1 (cnd := .ne) (off := 12) (tgt := 99) (by decide +kernel) (by decide) ⟨by omega, by omega⟩ (fun (h69 : vu68 ≠ 0) => ?_) (fun (h69 : ¬ (vu68 ≠ 0)) => ?_)
                    · have hp70 := ivu68_0 (by omega) (by omega)
                      refine sv_go C.1 C.2.1 [(.iconst 1, 1)] (pc' := 100) (by decide +kernel) rfl (lv' := [(0, sv_r a)]) (st' := [sv_i 1]) rfl ?_
                      refine sv_goto C.1 C.2.1 (off := 4) (tgt := 104) (by decide +kernel) (by decide) ?_
                      exact sv_zret C hr (by omega) (by decide +kernel) hok67 (⟨rfl, ⟨_, rfl, ⟨by omega, by omega⟩⟩⟩)
                    · refine sv_go C.1 C.2.1 [(.aload_n 0, 1)] (pc' := 91) (by decide +kernel) rfl (lv' := [(0, sv_r a)]) (st' := [sv_r a]) rfl ?_
                      refine sq_ldc C (index := 224) (tx := "lent") 13 (by decide) rfl (by decide +kernel) ?_
                      refine sv_cv C (index := 208) (k := 1) (rest := []) (ci := 10) (r := (RX11, TX11, 47)) (by decide +kernel) (sf_X11_is l g A ty σ hok67 hTA hI a k_a 13 (by decide) (n18) ⟨by omega, by omega⟩ (b1) ⟨by omega, by omega⟩ (b2) ⟨by omega, by omega⟩ (hh) ⟨by omega, by omega⟩ e18 e19 e20 e21 (by omega) (by omega) (by omega)) ⟨co_X11_is, in_X11, ⟨by decide, by decide, by decide +kernel⟩, Nat.le_of_ble_eq_true rfl, Nat.le_of_ble_eq_true rfl⟩ ml_X11_208 im_X11_is se_X11_is (by rw [k_a]; rfl) rfl rfl rfl (Nat.le_of_ble_eq_true rfl) ⟨Nat.zero_le _, Nat.zero_le _⟩ (fun r72 σ73 hpo71 hok74 => ?_)
                      obtain ⟨rfl, ⟨vu75, rfl, hvu75, ivu75_0⟩⟩ := hpo71
                      refine sv_same (st2 := [sv_i vu75]) (lv2 := [(0, sv_r a)]) rfl rfl ?_
                      refine sv_if C.1 C.2.1 (cnd := .eq) (off := 7) (tgt := 103) (by decide +kernel) (by decide) ⟨by omega, by omega⟩ (fun (h76 : vu75 = 0) => ?_) (fun (h76 : ¬ (vu75 = 0)) => ?_)
                      · refine sv_go C.1 C.2.1 [(.iconst 0, 1)] (pc' := 104) (by decide +kernel) rfl (lv' := [(0, sv_r a)]) (st' := [sv_i 0]) rfl ?_
                        exact sv_zret C hr (by omega) (by decide +kernel) hok74 (⟨rfl, ⟨_, rfl, ⟨by omega, by omega⟩⟩⟩)
                      · have hp77 := ivu75_0 (by omega) (by omega)
                        refine sv_go C.1 C.2.1 [(.iconst 1, 1)] (pc' := 100) (by decide +kernel) rfl (lv' := [(0, sv_r a)]) (st' := [sv_i 1]) rfl ?_
                        refine sv_goto C.1 C.2.1 (off := 4) (tgt := 104) (by decide +kernel) (by decide) ?_
                        exact sv_zret C hr (by omega) (by decide +kernel) hok74 (⟨rfl, ⟨_, rfl, ⟨by omega, by omega⟩⟩⟩)

theorem fl_X11_98 : Cond.fieldLink RX11 98 "SaintsRoadModel" "stop" "LSaintsRoadModel$Stop;" ∈ lw_good := sv_mem 1119 (by decide +kernel) rfl
set_option maxHeartbeats 4000000 in
set_option maxRecDepth 100000 in
theorem sf_X11_wrong (l : Launch) (g : sv_G) (A : Nat → Prop) (ty : Nat → Nat) (σ : Nat → Nat → Int) (hok : sv_ok ty σ) (hTA : ∀ q, ty q ≠ 0 → A q) (hI : sv_inv sp_1 ty σ) (a : Nat) (k_a : ty a = 10) (v : Int) (h_v : (-2147483648) ≤ v ∧ v ≤ 2147483647) : sv_M l yX11_wrong cX11_wrong 2 (some (.object "SaintsRoadModel$Stop")) { frames := 0, cells := 0, slots := 0, locals := 0 } g A ty σ [sv_r a, sv_i v] (fun r σ' => (∃ rq : Nat, r = [sv_r rq] ∧ ty rq = 11) ∧ sv_inv sp_1 ty σ' ∧ sv_ofx [(10, 23), (10, 24)] [] ty σ σ') := by
  refine sv_enter (by decide) (Nat.le_of_ble_eq_true rfl) ?_
  intro p e s m args below meth c C hr
  have C : sv_C g A RX11 cX11_wrong 2 p s m args meth c := C
  have hr : meth.sig.returnType = (some (.object "SaintsRoadModel$Stop")) := hr
  have hF : sv_ofx [(10, 23), (10, 24)] [] ty σ σ := sv_ofx.rf
  refine sv_same (st2 := []) (lv2 := [(0, sv_r a), (1, sv_i v)]) rfl rfl ?_
  refine sv_go C.1 C.2.1 [(.aload_n 0, 1), (.iload_n 1, 1)] (pc' := 2) (by decide +kernel) rfl (lv' := [(0, sv_r a), (1, sv_i v)]) (st' := [sv_i v, sv_r a]) rfl ?_
  refine sv_pf C (index := 169) (ci := 10) (k := 23) (r := (RX11, TX11, 47)) (z := v) (by decide +kernel) (by rw [k_a]; rfl) rfl (by decide) rfl fl_X11_169 rfl (Or.inl rfl) ⟨by omega, by omega⟩ (hTA _ (by rw [k_a]; decide)) hok (fun hok1 => ?_)
  have hI3 := hI.up (a := a) (k := 23) (z := v) (by rw [k_a]; exact trivial)
  have hF4 := hF.up (a := a) (k := 23) (z := v) (Or.inr (by rw [k_a]; decide))
  generalize eσ2 : sv_up σ a 23 v = σ2 at hok1 hI3 hF4 ⊢
  have t5 : σ2 a 23 = v := by rw [← eσ2]; exact sv_up_s _ _ _ _
  refine sv_go C.1 C.2.1 [(.aload_n 0, 1), (.aload_n 0, 1)] (pc' := 7) (by decide +kernel) rfl (lv' := [(0, sv_r a), (1, sv_i v)]) (st' := [sv_r a, sv_r a]) rfl ?_
  obtain ⟨v6, ev6, hv6⟩ := sv_rdn hI3 (k := 19) k_a rfl
  refine sv_gf C (index := 172) (ci := 10) (k := 19) (r := (RX11, TX11, 47)) (v := sv_i v6) (by decide +kernel) (by rw [k_a]; rfl) rfl (by decide) fl_X11_172 (congrArg sv_i ev6) ?_
  refine sv_pf C (index := 105) (ci := 10) (k := 24) (r := (RX11, TX11, 47)) (z := v6) (by decide +kernel) (by rw [k_a]; rfl) rfl (by decide) rfl fl_X11_105 rfl (Or.inl rfl) ⟨by omega, by omega⟩ (hTA _ (by rw [k_a]; decide)) hok1 (fun hok7 => ?_)
  have hI9 := hI3.up (a := a) (k := 24) (z := v6) (by rw [k_a]; exact trivial)
  have hF10 := hF4.up (a := a) (k := 24) (z := v6) (Or.inr (by rw [k_a]; decide))
  generalize eσ8 : sv_up σ2 a 24 v6 = σ8 at hok7 hI9 hF10 ⊢
  have t11 : σ8 a 23 = v := by rw [← eσ8, sv_up_k (by decide)]; exact t5
  have t12 : σ8 a 19 = v6 := by rw [← eσ8, sv_up_k (by decide)]; exact ev6
  have t13 : σ8 a 24 = v6 := by rw [← eσ8]; exact sv_up_s _ _ _ _
  refine sv_go C.1 C.2.1 [(.aload_n 0, 1)] (pc' := 14) (by decide +kernel) rfl (lv' := [(0, sv_r a), (1, sv_i v)]) (st' := [sv_r a]) rfl ?_
  obtain ⟨v14, ev14, kv14⟩ := hI9.ref (k := 15) k_a rfl
  refine sv_gf C (index := 98) (ci := 10) (k := 15) (r := (RX11, TX11, 47)) (v := sv_r v14) (by decide +kernel) (by rw [k_a]; rfl) rfl (by decide) fl_X11_98 (congrArg sv_a ev14) ?_
  exact sv_aret C hr (Or.inl ⟨_, rfl⟩) (by decide +kernel) hok7 (⟨⟨v14, rfl, kv14⟩, hI9, hF10⟩)

theorem ml_X11_225 : Cond.methodLink RX11 225 yX11_wrong ∈ lw_good := sv_mem 1299 (by decide +kernel) rfl
theorem co_X11_wrong : Cond.code yX11_wrong cX11_wrong 2 (some (.object "SaintsRoadModel$Stop")) ∈ lw_good := sv_mem 1302 (by decide +kernel) rfl
theorem im_X11_wrong : Cond.instanceMethod yX11_wrong ∈ lw_good := sv_mem 1301 (by decide +kernel) rfl
theorem se_X11_wrong : Cond.selects RX11 yX11_wrong yX11_wrong ∈ lw_good := sv_mem 50 (by decide +kernel) rfl
set_option maxHeartbeats 4000000 in
set_option maxRecDepth 100000 in
theorem sf_X11_number (l : Launch) (g : sv_G) (A : Nat → Prop) (ty : Nat → Nat) (σ : Nat → Nat → Int) (hok : sv_ok ty σ) (hTA : ∀ q, ty q ≠ 0 → A q) (hI : sv_inv sp_1 ty σ) (a : Nat) (k_a : ty a = 10) (lo : Int) (h_lo : (-2147483648) ≤ lo ∧ lo ≤ 2147483647) (hi : Int) (h_hi : (-2147483648) ≤ hi ∧ hi ≤ 2147483647) (n18 : Int) (h_n18 : 0 ≤ n18 ∧ n18 ≤ 4000) (b1 : Int) (h_b1 : 0 ≤ b1 ∧ b1 ≤ 4000) (b2 : Int) (h_b2 : 0 ≤ b2 ∧ b2 ≤ 4000) (hh : Int) (h_hh : 0 ≤ hh ∧ hh ≤ 4) (e18 : σ a 18 = n18) (e19 : σ a 19 = b1) (e20 : σ a 20 = b2) (e21 : σ a 21 = hh) (hJ1 : b1 ≤ b2 ∧ b2 ≤ n18) (hJ2 : hh = 0 ∨ b1 < b2) (hJ3 : hh ≠ 1 ∨ b2 ≤ b1 + 12) : st_M l yX11_number cX11_number 3 (some .int) { frames := 1, cells := 0, slots := 0, locals := 25 } g A ty σ [sv_r a, sv_i lo, sv_i hi] (fun r σ' => (∃ rv : Int, r = [sv_i rv] ∧ ((-2147483648) ≤ rv ∧ rv ≤ 2147483647) ∧ ((-2147483648) ≤ rv → rv ≤ 2147483647 → lo ≤ rv ∧ rv ≤ hi)) ∧ sv_inv sp_1 ty σ' ∧ sv_ofx [(10, 23), (10, 24)] [] ty σ σ') (fun x σ' => ty x = 11 ∧ sv_inv sp_1 ty σ' ∧ sv_ofx [(10, 23), (10, 24)] [] ty σ σ') := by
  refine st_enter (by decide) (Nat.le_of_ble_eq_true rfl) ?_
  intro p e s m args below meth c C hr hE
  have C : sv_C g A RX11 cX11_number 3 p s m args meth c := C
  have hr : meth.sig.returnType = (some .int) := hr
  have hF : sv_ofx [(10, 23), (10, 24)] [] ty σ σ := sv_ofx.rf
  refine sv_same (st2 := []) (lv2 := [(0, sv_r a), (1, sv_i lo), (2, sv_i hi)]) rfl rfl ?_
  refine sv_go C.1 C.2.1 [(.aload_n 0, 1)] (pc' := 1) (by decide +kernel) rfl (lv' := [(0, sv_r a), (1, sv_i lo), (2, sv_i hi)]) (st' := [sv_r a]) rfl ?_
  refine sv_gf C (index := 184) (ci := 10) (k := 21) (r := (RX11, TX11, 47)) (v := sv_i hh) (by decide +kernel) (by rw [k_a]; rfl) rfl (by decide) fl_X11_184 (congrArg sv_i e21) ?_
  refine sv_go C.1 C.2.1 [(.iconst 2, 1)] (pc' := 5) (by decide +kernel) rfl (lv' := [(0, sv_r a), (1, sv_i lo), (2, sv_i hi)]) (st' := [sv_i 2, sv_i hh]) rfl ?_
  refine sv_icmp C.1 C.2.1 (cnd := .eq) (off := 9) (tgt := 14) (by decide +kernel) (by decide) ⟨by omega, by omega⟩ ⟨by omega, by omega⟩ (fun (h1 : hh = 2) => ?_) (fun (h1 : ¬ (hh = 2)) => ?_)
  · refine sv_go C.1 C.2.1 [(.aload_n 0, 1)] (pc' := 15) (by decide +kernel) rfl (lv' := [(0, sv_r a), (1, sv_i lo), (2, sv_i hi)]) (st' := [sv_r a]) rfl ?_
    obtain ⟨v2, ev2, hv2⟩ := sv_rdk hok (a := a) (k := 22) (ci := 10) (r := (RX11, TX11, 47)) (by rw [k_a]; rfl) rfl (by decide) rfl
    refine sv_gf C (index := 193) (ci := 10) (k := 22) (r := (RX11, TX11, 47)) (v := sv_i v2) (by decide +kernel) (by rw [k_a]; rfl) rfl (by decide) fl_X11_193 (congrArg sv_i ev2) ?_
    refine sv_i2l C.1 C.2.1 (by decide +kernel) ⟨by omega, by omega⟩ ?_
    refine sv_go C.1 C.2.1 [(.iload_n 1, 1)] (pc' := 20) (by decide +kernel) rfl (lv' := [(0, sv_r a), (1, sv_i lo), (2, sv_i hi)]) (st' := [sv_i lo, sv_l v2]) rfl ?_
    refine sv_i2l C.1 C.2.1 (by decide +kernel) ⟨by omega, by omega⟩ ?_
    refine sv_go C.1 C.2.1 [(.iload_n 2, 1)] (pc' := 22) (by decide +kernel) rfl (lv' := [(0, sv_r a), (1, sv_i lo), (2, sv_i hi)]) (st' := [sv_i hi, sv_l lo, sv_l v2]) rfl ?_
    refine sv_i2l C.1 C.2.1 (by decide +kernel) ⟨by omega, by omega⟩ ?_
    refine sv_cs C (index := 9) (k := 3) (rest := []) (by decide +kernel) (ct_X11_in l g A ty σ hok (v2) ⟨by omega, by omega⟩ (lo) ⟨by omega, by omega⟩ (hi) ⟨by omega, by omega⟩) ⟨co_X11_in, in_X11, ⟨by decide, by decide, by decide +kernel⟩, Nat.le_of_ble_eq_true rfl, Nat.le_of_ble_eq_true rfl⟩ ml_X11_9 st_X11_in rfl rfl (Nat.le_of_ble_eq_true rfl) ⟨Nat.zero_le _, Nat.zero_le _⟩ (fun r4 σ5 hpo3 hok6 => ?_)
    obtain ⟨rfl, ⟨h7, rfl⟩ | ⟨h7, rfl⟩⟩ := hpo3
    · refine sv_same (st2 := [sv_i 1]) (lv2 := [(0, sv_r a), (1, sv_i lo), (2, sv_i hi)]) rfl rfl ?_
      refine sv_if_t C.1 C.2.1 (cnd := .ne) (off := 9) (tgt := 35) (by decide +kernel) (by decide) ⟨by omega, by omega⟩ (show 1 ≠ 0 by omega) ?_
      refine sv_go C.1 C.2.1 [(.aload_n 0, 1)] (pc' := 36) (by decide +kernel) rfl (lv' := [(0, sv_r a), (1, sv_i lo), (2, sv_i hi)]) (st' := [sv_r a]) rfl ?_
      refine sv_gf C (index := 193) (ci := 10) (k := 22) (r := (RX11, TX11, 47)) (v := sv_i v2) (by decide +kernel) (by rw [k_a]; rfl) rfl (by decide) fl_X11_193 (congrArg sv_i ev2) ?_
      exact st_of (sv_iret C hr (by decide +kernel) hok6 (⟨⟨_, rfl, ⟨by omega, by omega⟩, fun _ _ => (by omega)⟩, hI, hF⟩))
    · refine sv_same (st2 := [sv_i 0]) (lv2 := [(0, sv_r a), (1, sv_i lo), (2, sv_i hi)]) rfl rfl ?_
      refine sv_if_f C.1 C.2.1 (cnd := .ne) (off := 9) (tgt := 35) (by decide +kernel) (by decide) ⟨by omega, by omega⟩ (show ¬ (0 ≠ 0) by omega) ?_
      refine sv_go C.1 C.2.1 [(.aload_n 0, 1), (.iconst 3, 1)] (pc' := 31) (by decide +kernel) rfl (lv' := [(0, sv_r a), (1, sv_i lo), (2, sv_i hi)]) (st' := [sv_i 3, sv_r a]) rfl ?_
      refine sv_cv C (index := 225) (k := 1) (rest := []) (ci := 10) (r := (RX11, TX11, 47)) (by decide +kernel) (sf_X11_wrong l g A ty σ hok6 hTA hI a k_a (3) ⟨by omega, by omega⟩) ⟨co_X11_wrong, in_X11, ⟨by decide, by decide, by decide +kernel⟩, Nat.le_of_ble_eq_true rfl, Nat.le_of_ble_eq_true rfl⟩ ml_X11_225 im_X11_wrong se_X11_wrong (by rw [k_a]; rfl) rfl rfl rfl (Nat.le_of_ble_eq_true rfl) ⟨Nat.zero_le _, Nat.zero_le _⟩ (fun r9 σ10 hpo8 hok11 => ?_)
      obtain ⟨⟨qu12, rfl, kqu12⟩, hIu12, hFu12⟩ := hpo8
      have hGu12 := hF.tr hFu12 (by decide) (by decide)
      have t13 : σ10 a 18 = n18 := (hFu12.at k_a (by decide) (by decide)).trans e18
      have t14 : σ10 a 19 = b1 := (hFu12.at k_a (by decide) (by decide)).trans e19
      have t15 : σ10 a 20 = b2 := (hFu12.at k_a (by decide) (by decide)).trans e20
      have t16 : σ10 a 21 = hh := (hFu12.at k_a (by decide) (by decide)).trans e21
      have t17 : σ10 a 22 = v2 := (hFu12.at k_a (by decide) (by decide)).trans ev2
      refine sv_same (st2 := [sv_r qu12]) (lv2 := [(0, sv_r a), (1, sv_i lo), (2, sv_i hi)]) rfl rfl ?_
      exact st_throw C hE (by decide +kernel) hok11 ⟨kqu12, hIu12, hGu12⟩
  · refine sv_go C.1 C.2.1 [(.aload_n 0, 1), (.iconst 1, 1)] (pc' := 10) (by decide +kernel) rfl (lv' := [(0, sv_r a), (1, sv_i lo), (2, sv_i hi)]) (st' := [sv_i 1, sv_r a]) rfl ?_
    refine sv_cv C (index := 225) (k := 1) (rest := []) (ci := 10) (r := (RX11, TX11, 47)) (by decide +kernel) (sf_X11_wrong l g A ty σ hok hTA hI a k_a (1) ⟨by omega, by omega⟩) ⟨co_X11_wrong, in_X11, ⟨by decide, by decide, by decide +kernel⟩, Nat.le_of_ble_eq_true rfl, Nat.le_of_ble_eq_true rfl⟩ ml_X11_225 im_X11_wrong se_X11_wrong (by rw [k_a]; rfl) rfl rfl rfl (Nat.le_of_ble_eq_true rfl) ⟨Nat.zero_le _, Nat.zero_le _⟩ (fun r19 σ20 hpo18 hok21 => ?_)
    obtain ⟨⟨qu22, rfl, kqu22⟩, hIu22, hFu22⟩ := hpo18
    have hGu22 := hF.tr hFu22 (by decide) (by decide)
    have t23 : σ20 a 18 = n18 := (hFu22.at k_a (by decide) (by decide)).trans e18
    have t24 : σ20 a 19 = b1 := (hFu22.at k_a (by decide) (by decide)).trans e19
    have t25 : σ20 a 20 = b2 := (hFu22.at k_a (by decide) (by decide)).trans e20
    have t26 : σ20 a 21 = hh := (hFu22.at k_a (by decide) (by decide)).trans e21
    refine sv_same (st2 := [sv_r qu22]) (lv2 := [(0, sv_r a), (1, sv_i lo), (2, sv_i hi)]) rfl rfl ?_
    exact st_throw C hE (by decide +kernel) hok21 ⟨kqu22, hIu22, hGu22⟩

theorem ml_X11_232 : Cond.methodLink RX11 232 yX11_number ∈ lw_good := sv_mem 1307 (by decide +kernel) rfl
theorem co_X11_number : Cond.code yX11_number cX11_number 3 (some .int) ∈ lw_good := sv_mem 1310 (by decide +kernel) rfl
theorem im_X11_number : Cond.instanceMethod yX11_number ∈ lw_good := sv_mem 1309 (by decide +kernel) rfl
theorem se_X11_number : Cond.selects RX11 yX11_number yX11_number ∈ lw_good := sv_mem 52 (by decide +kernel) rfl
theorem ml_X11_229 : Cond.methodLink RX11 229 yX11_scan ∈ lw_good := sv_mem 1274 (by decide +kernel) rfl
theorem co_X11_scan : Cond.code yX11_scan cX11_scan 2 none ∈ lw_good := sv_mem 1277 (by decide +kernel) rfl
theorem im_X11_scan : Cond.instanceMethod yX11_scan ∈ lw_good := sv_mem 1276 (by decide +kernel) rfl
theorem se_X11_scan : Cond.selects RX11 yX11_scan yX11_scan ∈ lw_good := sv_mem 46 (by decide +kernel) rfl
set_option maxHeartbeats 4000000 in
set_option maxRecDepth 100000 in
theorem sf_X11_takeNumber (l : Launch) (g : sv_G) (A : Nat → Prop) (ty : Nat → Nat) (σ : Nat → Nat → Int) (hok : sv_ok ty σ) (hTA : ∀ q, ty q ≠ 0 → A q) (hI : sv_inv sp_1 ty σ) (a : Nat) (k_a : ty a = 10) (lo : Int) (h_lo : (-2147483648) ≤ lo ∧ lo ≤ 2147483647) (hi : Int) (h_hi : (-2147483648) ≤ hi ∧ hi ≤ 2147483647) (n18 : Int) (h_n18 : 0 ≤ n18 ∧ n18 ≤ 4000) (b1 : Int) (h_b1 : 0 ≤ b1 ∧ b1 ≤ 4000) (b2 : Int) (h_b2 : 0 ≤ b2 ∧ b2 ≤ 4000) (hh : Int) (h_hh : 0 ≤ hh ∧ hh ≤ 4) (e18 : σ a 18 = n18) (e19 : σ a 19 = b1) (e20 : σ a 20 = b2) (e21 : σ a 21 = hh) (hJ1 : b1 ≤ b2 ∧ b2 ≤ n18) (hJ2 : hh = 0 ∨ b1 < b2) (hJ3 : hh ≠ 1 ∨ b2 ≤ b1 + 12) : st_M l yX11_takeNumber cX11_takeNumber 4 (some .int) { frames := 2, cells := 0, slots := 0, locals := 47 } g A ty σ [sv_r a, sv_i lo, sv_i hi] (fun r σ' => (∃ rv : Int, r = [sv_i rv] ∧ ((-2147483648) ≤ rv ∧ rv ≤ 2147483647) ∧ ((-2147483648) ≤ rv → rv ≤ 2147483647 → lo ≤ rv ∧ rv ≤ hi)) ∧ sv_inv sp_1 ty σ' ∧ sv_ofx [(10, 19), (10, 20), (10, 21), (10, 22), (10, 23), (10, 24)] [] ty σ σ' ∧ ∃ c1 c2 hc : Int, σ' a 19 = c1 ∧ σ' a 20 = c2 ∧ σ' a 21 = hc ∧ (b1 ≤ c1 ∧ c1 ≤ c2 ∧ c2 ≤ n18) ∧ (0 ≤ hc ∧ hc ≤ 4) ∧ (hc = 0 ∨ c1 < c2) ∧ (hc ≠ 1 ∨ c2 ≤ c1 + 12)) (fun x σ' => ty x = 11 ∧ sv_inv sp_1 ty σ' ∧ sv_ofx [(10, 19), (10, 20), (10, 21), (10, 22), (10, 23), (10, 24)] [] ty σ σ') := by
  refine st_enter (by decide) (Nat.le_of_ble_eq_true rfl) ?_
  intro p e s m args below meth c C hr hE
  have C : sv_C g A RX11 cX11_takeNumber 4 p s m args meth c := C
  have hr : meth.sig.returnType = (some .int) := hr
  have hF : sv_ofx [(10, 19), (10, 20), (10, 21), (10, 22), (10, 23), (10, 24)] [] ty σ σ := sv_ofx.rf
  refine sv_same (st2 := []) (lv2 := [(0, sv_r a), (1, sv_i lo), (2, sv_i hi)]) rfl rfl ?_
  refine sv_go C.1 C.2.1 [(.aload_n 0, 1), (.iload_n 1, 1), (.iload_n 2, 1)] (pc' := 3) (by decide +kernel) rfl (lv' := [(0, sv_r a), (1, sv_i lo), (2, sv_i hi)]) (st' := [sv_i hi, sv_i lo, sv_r a]) rfl ?_
  refine st_cv C (index := 232) (k := 2) (rest := []) (ci := 10) (r := (RX11, TX11, 47)) (by decide +kernel) (sf_X11_number l g A ty σ hok hTA hI a k_a (lo) ⟨by omega, by omega⟩ (hi) ⟨by omega, by omega⟩ (n18) ⟨by omega, by omega⟩ (b1) ⟨by omega, by omega⟩ (b2) ⟨by omega, by omega⟩ (hh) ⟨by omega, by omega⟩ e18 e19 e20 e21 (by omega) (by omega) (by omega)) ⟨co_X11_number, in_X11, ⟨by decide, by decide, by decide +kernel⟩, Nat.le_of_ble_eq_true rfl, Nat.le_of_ble_eq_true rfl⟩ ml_X11_232 im_X11_number se_X11_number (by rw [k_a]; rfl) rfl rfl rfl (Nat.le_of_ble_eq_true rfl) ⟨Nat.zero_le _, Nat.zero_le _⟩ (fun r2 σ3 hpo1 hok4 => ?_) (fun xt5 σ3 hpo1 hok4 => st_out C hE hok4 ⟨hpo1.1, hpo1.2.1, hF.tr hpo1.2.2 (by decide) (by decide)⟩)
  obtain ⟨⟨vu6, rfl, hvu6, ivu6_0⟩, hIu6, hFu6⟩ := hpo1
  have hGu6 := hF.tr hFu6 (by decide) (by decide)
  have t7 : σ3 a 18 = n18 := (hFu6.at k_a (by decide) (by decide)).trans e18
  have t8 : σ3 a 19 = b1 := (hFu6.at k_a (by decide) (by decide)).trans e19
  have t9 : σ3 a 20 = b2 := (hFu6.at k_a (by decide) (by decide)).trans e20
  have t10 : σ3 a 21 = hh := (hFu6.at k_a (by decide) (by decide)).trans e21
  have hp11 := ivu6_0 (by omega) (by omega)
  refine sv_same (st2 := [sv_i vu6]) (lv2 := [(0, sv_r a), (1, sv_i lo), (2, sv_i hi)]) rfl rfl ?_
  refine sv_go C.1 C.2.1 [(.istore_n 3, 1), (.aload_n 0, 1)] (pc' := 8) (by decide +kernel) rfl (lv' := [(0, sv_r a), (1, sv_i lo), (2, sv_i hi), (3, sv_i vu6)]) (st' := [sv_r a]) rfl ?_
  refine sv_cv C (index := 229) (k := 0) (rest := []) (ci := 10) (r := (RX11, TX11, 47)) (by decide +kernel) (sf_X11_scan l g A ty σ3 hok4 hTA hIu6 a k_a (n18) ⟨by omega, by omega⟩ (b2) ⟨by omega, by omega⟩ t7 t9 (by omega)) ⟨co_X11_scan, in_X11, ⟨by decide, by decide, by decide +kernel⟩, Nat.le_of_ble_eq_true rfl, Nat.le_of_ble_eq_true rfl⟩ ml_X11_229 im_X11_scan se_X11_scan (by rw [k_a]; rfl) rfl rfl rfl (Nat.le_of_ble_eq_true rfl) ⟨Nat.zero_le _, Nat.zero_le _⟩ (fun r13 σ14 hpo12 hok15 => ?_)
  obtain ⟨rfl, hIu16, hFu16, xu16⟩ := hpo12
  have hGu16 := hGu6.tr hFu16 (by decide) (by decide)
  have t17 : σ14 a 18 = n18 := (hFu16.at k_a (by decide) (by decide)).trans t7
  obtain ⟨c1u16, c2u16, chu16, e19u16, e20u16, e21u16, j1u16, j2u16, j3u16, j4u16⟩ := xu16
  refine sv_same (st2 := []) (lv2 := [(0, sv_r a), (1, sv_i lo), (2, sv_i hi), (3, sv_i vu6)]) rfl rfl ?_
  refine sv_go C.1 C.2.1 [(.iload_n 3, 1)] (pc' := 12) (by decide +kernel) rfl (lv' := [(0, sv_r a), (1, sv_i lo), (2, sv_i hi), (3, sv_i vu6)]) (st' := [sv_i vu6]) rfl ?_
  exact st_of (sv_iret C hr (by decide +kernel) hok15 (⟨⟨_, rfl, ⟨by omega, by omega⟩, fun _ _ => (by omega)⟩, hIu16, hGu16, _, _, _, e19u16, e20u16, e21u16, by omega, by omega, by omega, by omega⟩))

set_option maxHeartbeats 4000000 in
set_option maxRecDepth 100000 in
theorem sf_X11_need (l : Launch) (g : sv_G) (A : Nat → Prop) (ty : Nat → Nat) (σ : Nat → Nat → Int) (hok : sv_ok ty σ) (hTA : ∀ q, ty q ≠ 0 → A q) (hI : sv_inv sp_1 ty σ) (a : Nat) (k_a : ty a = 10) (w : Nat) (h_w : w < 23) (n18 : Int) (h_n18 : 0 ≤ n18 ∧ n18 ≤ 4000) (b1 : Int) (h_b1 : 0 ≤ b1 ∧ b1 ≤ 4000) (b2 : Int) (h_b2 : 0 ≤ b2 ∧ b2 ≤ 4000) (hh : Int) (h_hh : 0 ≤ hh ∧ hh ≤ 4) (e18 : σ a 18 = n18) (e19 : σ a 19 = b1) (e20 : σ a 20 = b2) (e21 : σ a 21 = hh) (hJ1 : b1 ≤ b2 ∧ b2 ≤ n18) (hJ2 : hh = 0 ∨ b1 < b2) (hJ3 : hh ≠ 1 ∨ b2 ≤ b1 + 12) : st_M l yX11_need cX11_need 2 none { frames := 5, cells := 0, slots := 0, locals := 108 } g A ty σ [sv_r a, sv_r (g.2.2.2.2.1 w)] (fun r σ' => (r = []) ∧ sv_inv sp_1 ty σ' ∧ sv_ofx [(10, 19), (10, 20), (10, 21), (10, 22), (10, 23), (10, 24)] [] ty σ σ' ∧ ∃ c1 c2 hc : Int, σ' a 19 = c1 ∧ σ' a 20 = c2 ∧ σ' a 21 = hc ∧ (b1 ≤ c1 ∧ c1 ≤ c2 ∧ c2 ≤ n18) ∧ (0 ≤ hc ∧ hc ≤ 4) ∧ (hc = 0 ∨ c1 < c2) ∧ (hc ≠ 1 ∨ c2 ≤ c1 + 12)) (fun x σ' => ty x = 11 ∧ sv_inv sp_1 ty σ' ∧ sv_ofx [(10, 19), (10, 20), (10, 21), (10, 22), (10, 23), (10, 24)] [] ty σ σ') := by
  refine st_enter (by decide) (Nat.le_of_ble_eq_true rfl) ?_
  intro p e s m args below meth c C hr hE
  have C : sv_C g A RX11 cX11_need 2 p s m args meth c := C
  have hr : meth.sig.returnType = none := hr
  have hF : sv_ofx [(10, 19), (10, 20), (10, 21), (10, 22), (10, 23), (10, 24)] [] ty σ σ := sv_ofx.rf
  refine sv_same (st2 := []) (lv2 := [(0, sv_r a), (1, sv_r (g.2.2.2.2.1 w))]) rfl rfl ?_
  refine sv_go C.1 C.2.1 [(.aload_n 0, 1), (.aload_n 1, 1)] (pc' := 2) (by decide +kernel) rfl (lv' := [(0, sv_r a), (1, sv_r (g.2.2.2.2.1 w))]) (st' := [sv_r (g.2.2.2.2.1 w), sv_r a]) rfl ?_
  refine sv_cv C (index := 208) (k := 1) (rest := []) (ci := 10) (r := (RX11, TX11, 47)) (by decide +kernel) (sf_X11_is l g A ty σ hok hTA hI a k_a w h_w (n18) ⟨by omega, by omega⟩ (b1) ⟨by omega, by omega⟩ (b2) ⟨by omega, by omega⟩ (hh) ⟨by omega, by omega⟩ e18 e19 e20 e21 (by omega) (by omega) (by omega)) ⟨co_X11_is, in_X11, ⟨by decide, by decide, by decide +kernel⟩, Nat.le_of_ble_eq_true rfl, Nat.le_of_ble_eq_true rfl⟩ ml_X11_208 im_X11_is se_X11_is (by rw [k_a]; rfl) rfl rfl rfl (Nat.le_of_ble_eq_true rfl) ⟨Nat.zero_le _, Nat.zero_le _⟩ (fun r2 σ3 hpo1 hok4 => ?_)
  obtain ⟨rfl, ⟨vu5, rfl, hvu5, ivu5_0⟩⟩ := hpo1
  refine sv_same (st2 := [sv_i vu5]) (lv2 := [(0, sv_r a), (1, sv_r (g.2.2.2.2.1 w))]) rfl rfl ?_
  refine sv_if C.1 C.2.1 (cnd := .ne) (off := 9) (tgt := 14) (by decide +kernel) (by decide) ⟨by omega, by omega⟩ (fun (h6 : vu5 ≠ 0) => ?_) (fun (h6 : ¬ (vu5 ≠ 0)) => ?_)
  · have hp7 := ivu5_0 (by omega) (by omega)
    refine sv_go C.1 C.2.1 [(.aload_n 0, 1)] (pc' := 15) (by decide +kernel) rfl (lv' := [(0, sv_r a), (1, sv_r (g.2.2.2.2.1 w))]) (st' := [sv_r a]) rfl ?_
    refine sv_cv C (index := 229) (k := 0) (rest := []) (ci := 10) (r := (RX11, TX11, 47)) (by decide +kernel) (sf_X11_scan l g A ty σ hok4 hTA hI a k_a (n18) ⟨by omega, by omega⟩ (b2) ⟨by omega, by omega⟩ e18 e20 (by omega)) ⟨co_X11_scan, in_X11, ⟨by decide, by decide, by decide +kernel⟩, Nat.le_of_ble_eq_true rfl, Nat.le_of_ble_eq_true rfl⟩ ml_X11_229 im_X11_scan se_X11_scan (by rw [k_a]; rfl) rfl rfl rfl (Nat.le_of_ble_eq_true rfl) ⟨Nat.zero_le _, Nat.zero_le _⟩ (fun r9 σ10 hpo8 hok11 => ?_)
    obtain ⟨rfl, hIu12, hFu12, xu12⟩ := hpo8
    have hGu12 := hF.tr hFu12 (by decide) (by decide)
    have t13 : σ10 a 18 = n18 := (hFu12.at k_a (by decide) (by decide)).trans e18
    obtain ⟨c1u12, c2u12, chu12, e19u12, e20u12, e21u12, j1u12, j2u12, j3u12, j4u12⟩ := xu12
    refine sv_same (st2 := []) (lv2 := [(0, sv_r a), (1, sv_r (g.2.2.2.2.1 w))]) rfl rfl ?_
    exact st_of (sv_vret C hr (by decide +kernel) hok11 (⟨rfl, hIu12, hGu12, _, _, _, e19u12, e20u12, e21u12, by omega, by omega, by omega, by omega⟩))
  · refine sv_go C.1 C.2.1 [(.aload_n 0, 1), (.iconst 1, 1)] (pc' := 10) (by decide +kernel) rfl (lv' := [(0, sv_r a), (1, sv_r (g.2.2.2.2.1 w))]) (st' := [sv_i 1, sv_r a]) rfl ?_
    refine sv_cv C (index := 225) (k := 1) (rest := []) (ci := 10) (r := (RX11, TX11, 47)) (by decide +kernel) (sf_X11_wrong l g A ty σ hok4 hTA hI a k_a (1) ⟨by omega, by omega⟩) ⟨co_X11_wrong, in_X11, ⟨by decide, by decide, by decide +kernel⟩, Nat.le_of_ble_eq_true rfl, Nat.le_of_ble_eq_true rfl⟩ ml_X11_225 im_X11_wrong se_X11_wrong (by rw [k_a]; rfl) rfl rfl rfl (Nat.le_of_ble_eq_true rfl) ⟨Nat.zero_le _, Nat.zero_le _⟩ (fun r15 σ16 hpo14 hok17 => ?_)
    obtain ⟨⟨qu18, rfl, kqu18⟩, hIu18, hFu18⟩ := hpo14
    have hGu18 := hF.tr hFu18 (by decide) (by decide)
    have t19 : σ16 a 18 = n18 := (hFu18.at k_a (by decide) (by decide)).trans e18
    have t20 : σ16 a 19 = b1 := (hFu18.at k_a (by decide) (by decide)).trans e19
    have t21 : σ16 a 20 = b2 := (hFu18.at k_a (by decide) (by decide)).trans e20
    have t22 : σ16 a 21 = hh := (hFu18.at k_a (by decide) (by decide)).trans e21
    refine sv_same (st2 := [sv_r qu18]) (lv2 := [(0, sv_r a), (1, sv_r (g.2.2.2.2.1 w))]) rfl rfl ?_
    exact st_throw C hE (by decide +kernel) hok17 ⟨kqu18, hIu18, hGu18⟩

theorem ml_X11_252 : Cond.methodLink RX11 252 yX11_takeNumber ∈ lw_good := sv_mem 1303 (by decide +kernel) rfl
theorem co_X11_takeNumber : Cond.code yX11_takeNumber cX11_takeNumber 4 (some .int) ∈ lw_good := sv_mem 1306 (by decide +kernel) rfl
theorem im_X11_takeNumber : Cond.instanceMethod yX11_takeNumber ∈ lw_good := sv_mem 1305 (by decide +kernel) rfl
theorem se_X11_takeNumber : Cond.selects RX11 yX11_takeNumber yX11_takeNumber ∈ lw_good := sv_mem 51 (by decide +kernel) rfl
theorem ml_X11_249 : Cond.methodLink RX11 249 yX11_isSign ∈ lw_good := sv_mem 1323 (by decide +kernel) rfl
theorem co_X11_isSign : Cond.code yX11_isSign cX11_isSign 2 (some .boolean) ∈ lw_good := sv_mem 1326 (by decide +kernel) rfl
theorem im_X11_isSign : Cond.instanceMethod yX11_isSign ∈ lw_good := sv_mem 1325 (by decide +kernel) rfl
theorem se_X11_isSign : Cond.selects RX11 yX11_isSign yX11_isSign ∈ lw_good := sv_mem 54 (by decide +kernel) rfl
theorem ml_X11_258 : Cond.methodLink RX11 258 yX11_need ∈ lw_good := sv_mem 1328 (by decide +kernel) rfl
theorem co_X11_need : Cond.code yX11_need cX11_need 2 none ∈ lw_good := sv_mem 1331 (by decide +kernel) rfl
theorem im_X11_need : Cond.instanceMethod yX11_need ∈ lw_good := sv_mem 1330 (by decide +kernel) rfl
theorem se_X11_need : Cond.selects RX11 yX11_need yX11_need ∈ lw_good := sv_mem 55 (by decide +kernel) rfl
theorem ml_X11_262 : Cond.methodLink RX11 262 yX11_isQuoted ∈ lw_good := sv_mem 1332 (by decide +kernel) rfl
theorem co_X11_isQuoted : Cond.code yX11_isQuoted cX11_isQuoted 1 (some .boolean) ∈ lw_good := sv_mem 1335 (by decide +kernel) rfl
theorem im_X11_isQuoted : Cond.instanceMethod yX11_isQuoted ∈ lw_good := sv_mem 1334 (by decide +kernel) rfl
theorem se_X11_isQuoted : Cond.selects RX11 yX11_isQuoted yX11_isQuoted ∈ lw_good := sv_mem 56 (by decide +kernel) rfl
set_option maxHeartbeats 4000000 in
set_option maxRecDepth 100000 in
theorem sf_X11_readFeast (l : Launch) (g : sv_G) (A : Nat → Prop) (ty : Nat → Nat) (σ : Nat → Nat → Int) (hok : sv_ok ty σ) (hTA : ∀ q, ty q ≠ 0 → A q) (hI : sv_inv sp_1 ty σ) (a : Nat) (k_a : ty a = 10) (n18 : Int) (h_n18 : 0 ≤ n18 ∧ n18 ≤ 4000) (b1 : Int) (h_b1 : 0 ≤ b1 ∧ b1 ≤ 4000) (b2 : Int) (h_b2 : 0 ≤ b2 ∧ b2 ≤ 4000) (hh : Int) (h_hh : 0 ≤ hh ∧ hh ≤ 4) (e18 : σ a 18 = n18) (e19 : σ a 19 = b1) (e20 : σ a 20 = b2) (e21 : σ a 21 = hh) (hJ1 : b1 ≤ b2 ∧ b2 ≤ n18) (hJ2 : hh = 0 ∨ b1 < b2) (hJ3 : hh ≠ 1 ∨ b2 ≤ b1 + 12) : st_M l yX11_readFeast cX11_readFeast 7 none { frames := 6, cells := 0, slots := 0, locals := 129 } g A ty σ [sv_r a] (fun r σ' => (r = []) ∧ sv_inv sp_1 ty σ' ∧ sv_ofx [(10, 19), (10, 20), (10, 21), (10, 22), (10, 23), (10, 24)] [60, 65, 66, 67, 68, 69, 70, 71, 72, 73, 74] ty σ σ' ∧ ∃ c1 c2 hc : Int, σ' a 19 = c1 ∧ σ' a 20 = c2 ∧ σ' a 21 = hc ∧ (b1 ≤ c1 ∧ c1 ≤ c2 ∧ c2 ≤ n18) ∧ (0 ≤ hc ∧ hc ≤ 4) ∧ (hc = 0 ∨ c1 < c2) ∧ (hc ≠ 1 ∨ c2 ≤ c1 + 12)) (fun x σ' => ty x = 11 ∧ sv_inv sp_1 ty σ' ∧ sv_ofx [(10, 19), (10, 20), (10, 21), (10, 22), (10, 23), (10, 24)] [60, 65, 66, 67, 68, 69, 70, 71, 72, 73, 74] ty σ σ') := by
  refine st_enter (by decide) (Nat.le_of_ble_eq_true rfl) ?_
  intro p e s m args below meth c C hr hE
  have C : sv_C g A RX11 cX11_readFeast 7 p s m args meth c := C
  have hr : meth.sig.returnType = none := hr
  have hF : sv_ofx [(10, 19), (10, 20), (10, 21), (10, 22), (10, 23), (10, 24)] [60, 65, 66, 67, 68, 69, 70, 71, 72, 73, 74] ty σ σ := sv_ofx.rf
  refine sv_same (st2 := []) (lv2 := [(0, sv_r a)]) rfl rfl ?_
  refine sv_go C.1 C.2.1 [(.aload_n 0, 1)] (pc' := 1) (by decide +kernel) rfl (lv' := [(0, sv_r a)]) (st' := [sv_r a]) rfl ?_
  refine sq_ldc C (index := 206) (tx := "fixed") 15 (by decide) rfl (by decide +kernel) ?_
  refine sv_cv C (index := 208) (k := 1) (rest := []) (ci := 10) (r := (RX11, TX11, 47)) (by decide +kernel) (sf_X11_is l g A ty σ hok hTA hI a k_a 15 (by decide) (n18) ⟨by omega, by omega⟩ (b1) ⟨by omega, by omega⟩ (b2) ⟨by omega, by omega⟩ (hh) ⟨by omega, by omega⟩ e18 e19 e20 e21 (by omega) (by omega) (by omega)) ⟨co_X11_is, in_X11, ⟨by decide, by decide, by decide +kernel⟩, Nat.le_of_ble_eq_true rfl, Nat.le_of_ble_eq_true rfl⟩ ml_X11_208 im_X11_is se_X11_is (by rw [k_a]; rfl) rfl rfl rfl (Nat.le_of_ble_eq_true rfl) ⟨Nat.zero_le _, Nat.zero_le _⟩ (fun r2 σ3 hpo1 hok4 => ?_)
  obtain ⟨rfl, ⟨vu5, rfl, hvu5, ivu5_0⟩⟩ := hpo1
  refine sv_same (st2 := [sv_i vu5]) (lv2 := [(0, sv_r a)]) rfl rfl ?_
  have J8 : ∀ (Jg7_s0 : Int), ((-1) ≤ Jg7_s0 ∧ Jg7_s0 ≤ 2) → st_E p l e { frames := 6, cells := 0, slots := 0, locals := 129 } s m args below meth c 7 g A ty (fun r σ' => (r = []) ∧ sv_inv sp_1 ty σ' ∧ sv_ofx [(10, 19), (10, 20), (10, 21), (10, 22), (10, 23), (10, 24)] [60, 65, 66, 67, 68, 69, 70, 71, 72, 73, 74] ty σ σ' ∧ ∃ c1 c2 hc : Int, σ' a 19 = c1 ∧ σ' a 20 = c2 ∧ σ' a 21 = hc ∧ (b1 ≤ c1 ∧ c1 ≤ c2 ∧ c2 ≤ n18) ∧ (0 ≤ hc ∧ hc ≤ 4) ∧ (hc = 0 ∨ c1 < c2) ∧ (hc ≠ 1 ∨ c2 ≤ c1 + 12)) (fun x σ' => ty x = 11 ∧ sv_inv sp_1 ty σ' ∧ sv_ofx [(10, 19), (10, 20), (10, 21), (10, 22), (10, 23), (10, 24)] [60, 65, 66, 67, 68, 69, 70, 71, 72, 73, 74] ty σ σ') σ 40 [(0, sv_r a)] [sv_i Jg7_s0] := by
    intro Jg7_s0 hJg7_s0
    refine sv_go C.1 C.2.1 [(.istore_n 1, 1), (.iload_n 1, 1), (.iconst (-1), 1)] (pc' := 43) (by decide +kernel) rfl (lv' := [(0, sv_r a), (1, sv_i Jg7_s0)]) (st' := [sv_i ((-1)), sv_i Jg7_s0]) rfl ?_
    refine sv_icmp C.1 C.2.1 (cnd := .ne) (off := 9) (tgt := 52) (by decide +kernel) (by decide) ⟨by omega, by omega⟩ ⟨by omega, by omega⟩ (fun (h9 : Jg7_s0 ≠ ((-1))) => ?_) (fun (h9 : ¬ (Jg7_s0 ≠ ((-1)))) => ?_)
    · refine sv_go C.1 C.2.1 [(.aload_n 0, 1)] (pc' := 53) (by decide +kernel) rfl (lv' := [(0, sv_r a), (1, sv_i Jg7_s0)]) (st' := [sv_r a]) rfl ?_
      obtain ⟨v10, ev10, kv10⟩ := hI.ref (k := 0) k_a rfl
      refine sv_gf C (index := 47) (ci := 10) (k := 0) (r := (RX11, TX11, 47)) (v := sv_r v10) (by decide +kernel) (by rw [k_a]; rfl) rfl (by decide) fl_X11_47 (congrArg sv_a ev10) ?_
      refine sv_go C.1 C.2.1 [(.iconst 4, 1)] (pc' := 57) (by decide +kernel) rfl (lv' := [(0, sv_r a), (1, sv_i Jg7_s0)]) (st' := [sv_i 4, sv_r v10]) rfl ?_
      refine sv_ia C (n := 5) (by decide +kernel) (by rw [kv10]; rfl) (by decide) (by omega) (by omega) ?_
      obtain ⟨v11, ev11, hv11⟩ := sv_rdn hI (k := (4 : Int).toNat) kv10 rfl
      rw [ev11]
      refine sv_go C.1 C.2.1 [(.bipush 60, 2)] (pc' := 60) (by decide +kernel) rfl (lv' := [(0, sv_r a), (1, sv_i Jg7_s0)]) (st' := [sv_i 60, sv_i v11]) rfl ?_
      refine sv_icmp C.1 C.2.1 (cnd := .ne) (off := 9) (tgt := 69) (by decide +kernel) (by decide) ⟨by omega, by omega⟩ ⟨by omega, by omega⟩ (fun (h12 : v11 ≠ 60) => ?_) (fun (h12 : ¬ (v11 ≠ 60)) => ?_)
      · refine sv_go C.1 C.2.1 [(.iconst 4, 1), (.aload_n 0, 1)] (pc' := 71) (by decide +kernel) rfl (lv' := [(0, sv_r a), (1, sv_i Jg7_s0)]) (st' := [sv_r a, sv_i 4]) rfl ?_
        refine sv_gf C (index := 47) (ci := 10) (k := 0) (r := (RX11, TX11, 47)) (v := sv_r v10) (by decide +kernel) (by rw [k_a]; rfl) rfl (by decide) fl_X11_47 (congrArg sv_a ev10) ?_
        refine sv_go C.1 C.2.1 [(.iconst 4, 1)] (pc' := 75) (by decide +kernel) rfl (lv' := [(0, sv_r a), (1, sv_i Jg7_s0)]) (st' := [sv_i 4, sv_r v10, sv_i 4]) rfl ?_
        refine sv_ia C (n := 5) (by decide +kernel) (by rw [kv10]; rfl) (by decide) (by omega) (by omega) ?_
        rw [ev11]
        refine sv_cs C (index := 166) (k := 2) (rest := []) (by decide +kernel) (sf_X11_at l g A ty σ hok4 hTA hI (4) ⟨by omega, by omega⟩ (v11) ⟨by omega, by omega⟩) ⟨co_X11_at, in_X11, ⟨by decide, by decide, by decide +kernel⟩, Nat.le_of_ble_eq_true rfl, Nat.le_of_ble_eq_true rfl⟩ ml_X11_166 st_X11_at rfl rfl (Nat.le_of_ble_eq_true rfl) ⟨Nat.zero_le _, Nat.zero_le _⟩ (fun r14 σ15 hpo13 hok16 => ?_)
        obtain ⟨rfl, ⟨vu17, rfl, hvu17⟩⟩ := hpo13
        refine sv_same (st2 := [sv_i vu17]) (lv2 := [(0, sv_r a), (1, sv_i Jg7_s0)]) rfl rfl ?_
        refine sv_go C.1 C.2.1 [(.istore_n 2, 1), (.aload_n 0, 1)] (pc' := 81) (by decide +kernel) rfl (lv' := [(0, sv_r a), (1, sv_i Jg7_s0), (2, sv_i vu17)]) (st' := [sv_r a]) rfl ?_
        obtain ⟨v18, ev18, kv18⟩ := hI.ref (k := 5) k_a rfl
        refine sv_gf C (index := 63) (ci := 10) (k := 5) (r := (RX11, TX11, 47)) (v := sv_r v18) (by decide +kernel) (by rw [k_a]; rfl) rfl (by decide) fl_X11_63 (congrArg sv_a ev18) ?_
        refine sv_go C.1 C.2.1 [(.iload_n 2, 1), (.iload_n 1, 1)] (pc' := 86) (by decide +kernel) rfl (lv' := [(0, sv_r a), (1, sv_i Jg7_s0), (2, sv_i vu17)]) (st' := [sv_i Jg7_s0, sv_i vu17, sv_r v18]) rfl ?_
        refine sv_is C (n := 300) (by decide +kernel) (by rw [kv18]; rfl) (by decide) (by omega) (by omega) ⟨by omega, by omega⟩ (hTA _ (by rw [kv18]; decide)) hok16 (fun hok19 => ?_)
        have hI21 := hI.up (a := v18) (k := (vu17 : Int).toNat) (z := Jg7_s0) (by rw [kv18]; exact trivial)
        have hF22 := hF.up (a := v18) (k := (vu17 : Int).toNat) (z := Jg7_s0) (Or.inl (by rw [kv18]; decide))
        generalize eσ20 : sv_up σ v18 (vu17 : Int).toNat Jg7_s0 = σ20 at hok19 hI21 hF22 ⊢
        have t23 : σ20 a 18 = n18 := by rw [← eσ20, sv_up_a (sv_ne k_a kv18 (by decide))]; exact e18
        have t24 : σ20 a 19 = b1 := by rw [← eσ20, sv_up_a (sv_ne k_a kv18 (by decide))]; exact e19
        have t25 : σ20 a 20 = b2 := by rw [← eσ20, sv_up_a (sv_ne k_a kv18 (by decide))]; exact e20
        have t26 : σ20 a 21 = hh := by rw [← eσ20, sv_up_a (sv_ne k_a kv18 (by decide))]; exact e21
        have t27 : σ20 a 0 = (v10 : Int) + 1 := by rw [← eσ20, sv_up_a (sv_ne k_a kv18 (by decide))]; exact ev10
        have t28 : σ20 v10 (4 : Int).toNat = v11 := by rw [← eσ20, sv_up_a (sv_ne kv10 kv18 (by decide))]; exact ev11
        have t29 : σ20 a 5 = (v18 : Int) + 1 := by rw [← eσ20, sv_up_a (sv_ne k_a kv18 (by decide))]; exact ev18
        have t30 : σ20 v18 (vu17 : Int).toNat = Jg7_s0 := by rw [← eσ20]; exact sv_up_s _ _ _ _
        refine sv_go C.1 C.2.1 [(.aload_n 0, 1)] (pc' := 88) (by decide +kernel) rfl (lv' := [(0, sv_r a), (1, sv_i Jg7_s0), (2, sv_i vu17)]) (st' := [sv_r a]) rfl ?_
        refine sv_cv C (index := 229) (k := 0) (rest := []) (ci := 10) (r := (RX11, TX11, 47)) (by decide +kernel) (sf_X11_scan l g A ty σ20 hok19 hTA hI21 a k_a (n18) ⟨by omega, by omega⟩ (b2) ⟨by omega, by omega⟩ t23 t25 (by omega)) ⟨co_X11_scan, in_X11, ⟨by decide, by decide, by decide +kernel⟩, Nat.le_of_ble_eq_true rfl, Nat.le_of_ble_eq_true rfl⟩ ml_X11_229 im_X11_scan se_X11_scan (by rw [k_a]; rfl) rfl rfl rfl (Nat.le_of_ble_eq_true rfl) ⟨Nat.zero_le _, Nat.zero_le _⟩ (fun r32 σ33 hpo31 hok34 => ?_)
        obtain ⟨rfl, hIu35, hFu35, xu35⟩ := hpo31
        have hGu35 := hF22.tr hFu35 (by decide) (by decide)
        have t36 : σ33 a 18 = n18 := (hFu35.at k_a (by decide) (by decide)).trans t23
        have t37 : σ33 a 0 = (v10 : Int) + 1 := (hFu35.at k_a (by decide) (by decide)).trans t27
        have t38 : σ33 v10 (4 : Int).toNat = v11 := (hFu35.atA kv10 (by decide) (by decide)).trans t28
        have t39 : σ33 a 5 = (v18 : Int) + 1 := (hFu35.at k_a (by decide) (by decide)).trans t29
        have t40 : σ33 v18 (vu17 : Int).toNat = Jg7_s0 := (hFu35.atA kv18 (by decide) (by decide)).trans t30
        obtain ⟨c1u35, c2u35, chu35, e19u35, e20u35, e21u35, j1u35, j2u35, j3u35, j4u35⟩ := xu35
        refine sv_same (st2 := []) (lv2 := [(0, sv_r a), (1, sv_i Jg7_s0), (2, sv_i vu17)]) rfl rfl ?_
        refine sv_go C.1 C.2.1 [(.iload_n 1, 1)] (pc' := 92) (by decide +kernel) rfl (lv' := [(0, sv_r a), (1, sv_i Jg7_s0), (2, sv_i vu17)]) (st' := [sv_i Jg7_s0]) rfl ?_
        have J44 : ∀ (Jg42_fa_6 : Nat) (Jg42_fa_7 : Nat) (Jg42_fa_19 : Int) (Jg42_fa_20 : Int) (Jg42_fa_21 : Int) (σ43 : Nat → Nat → Int), (ty Jg42_fa_6 = 66) → (ty Jg42_fa_7 = 67) → (0 ≤ Jg42_fa_19 ∧ Jg42_fa_19 ≤ 4000) → (0 ≤ Jg42_fa_20 ∧ Jg42_fa_20 ≤ 4000) → (0 ≤ Jg42_fa_21 ∧ Jg42_fa_21 ≤ 4) → (sv_ok ty σ43) → (sv_inv sp_1 ty σ43) → (sv_ofx [(10, 19), (10, 20), (10, 21), (10, 22), (10, 23), (10, 24)] [60, 65, 66, 67, 68, 69, 70, 71, 72, 73, 74] ty σ σ43) → (σ43 a 18 = n18) → (σ43 a 0 = (v10 : Int) + 1) → (σ43 v10 (4 : Int).toNat = v11) → (σ43 a 5 = (v18 : Int) + 1) → (σ43 v18 (vu17 : Int).toNat = Jg7_s0) → (σ43 a 6 = (Jg42_fa_6 : Int) + 1) → (σ43 a 7 = (Jg42_fa_7 : Int) + 1) → (σ43 a 19 = Jg42_fa_19) → (σ43 a 20 = Jg42_fa_20) → (σ43 a 21 = Jg42_fa_21) → (b1 ≤ Jg42_fa_19 ∧ Jg42_fa_19 ≤ Jg42_fa_20 ∧ Jg42_fa_20 ≤ n18 ∧ (Jg42_fa_21 = 0 ∨ Jg42_fa_19 < Jg42_fa_20) ∧ (Jg42_fa_21 ≠ 1 ∨ Jg42_fa_20 ≤ Jg42_fa_19 + 12)) → st_E p l e { frames := 6, cells := 0, slots := 0, locals := 129 } s m args below meth c 7 g A ty (fun r σ' => (r = []) ∧ sv_inv sp_1 ty σ' ∧ sv_ofx [(10, 19), (10, 20), (10, 21), (10, 22), (10, 23), (10, 24)] [60, 65, 66, 67, 68, 69, 70, 71, 72, 73, 74] ty σ σ' ∧ ∃ c1 c2 hc : Int, σ' a 19 = c1 ∧ σ' a 20 = c2 ∧ σ' a 21 = hc ∧ (b1 ≤ c1 ∧ c1 ≤ c2 ∧ c2 ≤ n18) ∧ (0 ≤ hc ∧ hc ≤ 4) ∧ (hc = 0 ∨ c1 < c2) ∧ (hc ≠ 1 ∨ c2 ≤ c1 + 12)) (fun x σ' => ty x = 11 ∧ sv_inv sp_1 ty σ' ∧ sv_ofx [(10, 19), (10, 20), (10, 21), (10, 22), (10, 23), (10, 24)] [60, 65, 66, 67, 68, 69, 70, 71, 72, 73, 74] ty σ σ') σ43 229 [(0, sv_r a), (2, sv_i vu17)] [] := by
          intro Jg42_fa_6 Jg42_fa_7 Jg42_fa_19 Jg42_fa_20 Jg42_fa_21 σ43 kJg42_fa_6 kJg42_fa_7 hJg42_fa_19 hJg42_fa_20 hJg42_fa_21 okσ43 Iσ43 Fσ43 eσ43_0 eσ43_1 eσ43_2 eσ43_3 eσ43_4 eσ43_5 eσ43_6 eσ43_7 eσ43_8 eσ43_9 zj229
          refine sv_go C.1 C.2.1 [(.aload_n 0, 1)] (pc' := 230) (by decide +kernel) rfl (lv' := [(0, sv_r a), (2, sv_i vu17)]) (st' := [sv_r a]) rfl ?_
          refine sq_ldc C (index := 216) (tx := "rank") 18 (by decide) rfl (by decide +kernel) ?_
          refine st_cv C (index := 258) (k := 1) (rest := []) (ci := 10) (r := (RX11, TX11, 47)) (by decide +kernel) (sf_X11_need l g A ty σ43 okσ43 hTA Iσ43 a k_a 18 (by decide) (n18) ⟨by omega, by omega⟩ (Jg42_fa_19) ⟨by omega, by omega⟩ (Jg42_fa_20) ⟨by omega, by omega⟩ (Jg42_fa_21) ⟨by omega, by omega⟩ eσ43_0 eσ43_7 eσ43_8 eσ43_9 (by omega) (by omega) (by omega)) ⟨co_X11_need, in_X11, ⟨by decide, by decide, by decide +kernel⟩, Nat.le_of_ble_eq_true rfl, Nat.le_of_ble_eq_true rfl⟩ ml_X11_258 im_X11_need se_X11_need (by rw [k_a]; rfl) rfl rfl rfl (Nat.le_of_ble_eq_true rfl) ⟨Nat.zero_le _, Nat.zero_le _⟩ (fun r46 σ47 hpo45 hok48 => ?_) (fun xt49 σ47 hpo45 hok48 => st_out C hE hok48 ⟨hpo45.1, hpo45.2.1, Fσ43.tr hpo45.2.2 (by decide) (by decide)⟩)
          obtain ⟨rfl, hIu50, hFu50, xu50⟩ := hpo45
          have hGu50 := Fσ43.tr hFu50 (by decide) (by decide)
          have t51 : σ47 a 18 = n18 := (hFu50.at k_a (by decide) (by decide)).trans eσ43_0
          have t52 : σ47 a 0 = (v10 : Int) + 1 := (hFu50.at k_a (by decide) (by decide)).trans eσ43_1
          have t53 : σ47 v10 (4 : Int).toNat = v11 := (hFu50.atA kv10 (by decide) (by decide)).trans eσ43_2
          have t54 : σ47 a 5 = (v18 : Int) + 1 := (hFu50.at k_a (by decide) (by decide)).trans eσ43_3
          have t55 : σ47 v18 (vu17 : Int).toNat = Jg7_s0 := (hFu50.atA kv18 (by decide) (by decide)).trans eσ43_4
          have t56 : σ47 a 6 = (Jg42_fa_6 : Int) + 1 := (hFu50.at k_a (by decide) (by decide)).trans eσ43_5
          have t57 : σ47 a 7 = (Jg42_fa_7 : Int) + 1 := (hFu50.at k_a (by decide) (by decide)).trans eσ43_6
          obtain ⟨c1u50, c2u50, chu50, e19u50, e20u50, e21u50, j1u50, j2u50, j3u50, j4u50⟩ := xu50
          refine sv_same (st2 := []) (lv2 := [(0, sv_r a), (2, sv_i vu17)]) rfl rfl ?_
          refine sv_go C.1 C.2.1 [(.aload_n 0, 1)] (pc' := 236) (by decide +kernel) rfl (lv' := [(0, sv_r a), (2, sv_i vu17)]) (st' := [sv_r a]) rfl ?_
          obtain ⟨v58, ev58, kv58⟩ := hIu50.ref (k := 8) k_a rfl
          refine sv_gf C (index := 72) (ci := 10) (k := 8) (r := (RX11, TX11, 47)) (v := sv_r v58) (by decide +kernel) (by rw [k_a]; rfl) rfl (by decide) fl_X11_72 (congrArg sv_a ev58) ?_
          refine sv_go C.1 C.2.1 [(.iload_n 2, 1), (.aload_n 0, 1), (.iconst 1, 1), (.bipush 8, 2)] (pc' := 244) (by decide +kernel) rfl (lv' := [(0, sv_r a), (2, sv_i vu17)]) (st' := [sv_i 8, sv_i 1, sv_r a, sv_i vu17, sv_r v58]) rfl ?_
          refine st_cv C (index := 252) (k := 2) (rest := [sv_i vu17, sv_r v58]) (ci := 10) (r := (RX11, TX11, 47)) (by decide +kernel) (sf_X11_takeNumber l g A ty σ47 hok48 hTA hIu50 a k_a (1) ⟨by omega, by omega⟩ (8) ⟨by omega, by omega⟩ (n18) ⟨by omega, by omega⟩ (c1u50) ⟨by omega, by omega⟩ (c2u50) ⟨by omega, by omega⟩ (chu50) ⟨by omega, by omega⟩ t51 e19u50 e20u50 e21u50 (by omega) (by omega) (by omega)) ⟨co_X11_takeNumber, in_X11, ⟨by decide, by decide, by decide +kernel⟩, Nat.le_of_ble_eq_true rfl, Nat.le_of_ble_eq_true rfl⟩ ml_X11_252 im_X11_takeNumber se_X11_takeNumber (by rw [k_a]; rfl) rfl rfl rfl (Nat.le_of_ble_eq_true rfl) ⟨Nat.zero_le _, Nat.zero_le _⟩ (fun r60 σ61 hpo59 hok62 => ?_) (fun xt63 σ61 hpo59 hok62 => st_out C hE hok62 ⟨hpo59.1, hpo59.2.1, hGu50.tr hpo59.2.2 (by decide) (by decide)⟩)
          obtain ⟨⟨vu64, rfl, hvu64, ivu64_0⟩, hIu64, hFu64, xu64⟩ := hpo59
          have hGu64 := hGu50.tr hFu64 (by decide) (by decide)
          have t65 : σ61 a 18 = n18 := (hFu64.at k_a (by decide) (by decide)).trans t51
          have t66 : σ61 a 0 = (v10 : Int) + 1 := (hFu64.at k_a (by decide) (by decide)).trans t52
          have t67 : σ61 v10 (4 : Int).toNat = v11 := (hFu64.atA kv10 (by decide) (by decide)).trans t53
          have t68 : σ61 a 5 = (v18 : Int) + 1 := (hFu64.at k_a (by decide) (by decide)).trans t54
          have t69 : σ61 v18 (vu17 : Int).toNat = Jg7_s0 := (hFu64.atA kv18 (by decide) (by decide)).trans t55
          have t70 : σ61 a 6 = (Jg42_fa_6 : Int) + 1 := (hFu64.at k_a (by decide) (by decide)).trans t56
          have t71 : σ61 a 7 = (Jg42_fa_7 : Int) + 1 := (hFu64.at k_a (by decide) (by decide)).trans t57
          have t72 : σ61 a 8 = (v58 : Int) + 1 := (hFu64.at k_a (by decide) (by decide)).trans ev58
          obtain ⟨c1u64, c2u64, chu64, e19u64, e20u64, e21u64, j1u64, j2u64, j3u64, j4u64⟩ := xu64
          have hp73 := ivu64_0 (by omega) (by omega)
          refine sv_same (st2 := [sv_i vu64, sv_i vu17, sv_r v58]) (lv2 := [(0, sv_r a), (2, sv_i vu17)]) rfl rfl ?_
          refine sv_is C (n := 300) (by decide +kernel) (by rw [kv58]; rfl) (by decide) (by omega) (by omega) ⟨by omega, by omega⟩ (hTA _ (by rw [kv58]; decide)) hok62 (fun hok74 => ?_)
          have hI76 := hIu64.up (a := v58) (k := (vu17 : Int).toNat) (z := vu64) (by rw [kv58]; exact ⟨by omega, by omega⟩)
          have hF77 := hGu64.up (a := v58) (k := (vu17 : Int).toNat) (z := vu64) (Or.inl (by rw [kv58]; decide))
          generalize eσ75 : sv_up σ61 v58 (vu17 : Int).toNat vu64 = σ75 at hok74 hI76 hF77 ⊢
          have t78 : σ75 a 18 = n18 := by rw [← eσ75, sv_up_a (sv_ne k_a kv58 (by decide))]; exact t65
          have t79 : σ75 a 0 = (v10 : Int) + 1 := by rw [← eσ75, sv_up_a (sv_ne k_a kv58 (by decide))]; exact t66
          have t80 : σ75 v10 (4 : Int).toNat = v11 := by rw [← eσ75, sv_up_a (sv_ne kv10 kv58 (by decide))]; exact t67
          have t81 : σ75 a 5 = (v18 : Int) + 1 := by rw [← eσ75, sv_up_a (sv_ne k_a kv58 (by decide))]; exact t68
          have t82 : σ75 v18 (vu17 : Int).toNat = Jg7_s0 := by rw [← eσ75, sv_up_a (sv_ne kv18 kv58 (by decide))]; exact t69
          have t83 : σ75 a 6 = (Jg42_fa_6 : Int) + 1 := by rw [← eσ75, sv_up_a (sv_ne k_a kv58 (by decide))]; exact t70
          have t84 : σ75 a 7 = (Jg42_fa_7 : Int) + 1 := by rw [← eσ75, sv_up_a (sv_ne k_a kv58 (by decide))]; exact t71
          have t85 : σ75 a 8 = (v58 : Int) + 1 := by rw [← eσ75, sv_up_a (sv_ne k_a kv58 (by decide))]; exact t72
          have t86 : σ75 a 19 = c1u64 := by rw [← eσ75, sv_up_a (sv_ne k_a kv58 (by decide))]; exact e19u64
          have t87 : σ75 a 20 = c2u64 := by rw [← eσ75, sv_up_a (sv_ne k_a kv58 (by decide))]; exact e20u64
          have t88 : σ75 a 21 = chu64 := by rw [← eσ75, sv_up_a (sv_ne k_a kv58 (by decide))]; exact e21u64
          have t89 : σ75 v58 (vu17 : Int).toNat = vu64 := by rw [← eσ75]; exact sv_up_s _ _ _ _
          refine sv_go C.1 C.2.1 [(.aload_n 0, 1)] (pc' := 249) (by decide +kernel) rfl (lv' := [(0, sv_r a), (2, sv_i vu17)]) (st' := [sv_r a]) rfl ?_
          refine sv_gf C (index := 184) (ci := 10) (k := 21) (r := (RX11, TX11, 47)) (v := sv_i chu64) (by decide +kernel) (by rw [k_a]; rfl) rfl (by decide) fl_X11_184 (congrArg sv_i t88) ?_
          refine sv_go C.1 C.2.1 [(.iconst 1, 1)] (pc' := 253) (by decide +kernel) rfl (lv' := [(0, sv_r a), (2, sv_i vu17)]) (st' := [sv_i 1, sv_i chu64]) rfl ?_
          refine sv_icmp C.1 C.2.1 (cnd := .ne) (off := 10) (tgt := 263) (by decide +kernel) (by decide) ⟨by omega, by omega⟩ ⟨by omega, by omega⟩ (fun (h90 : chu64 ≠ 1) => ?_) (fun (h90 : ¬ (chu64 ≠ 1)) => ?_)
          · refine sv_go C.1 C.2.1 [(.aload_n 0, 1), (.iconst 1, 1)] (pc' := 265) (by decide +kernel) rfl (lv' := [(0, sv_r a), (2, sv_i vu17)]) (st' := [sv_i 1, sv_r a]) rfl ?_
            refine sv_cv C (index := 225) (k := 1) (rest := []) (ci := 10) (r := (RX11, TX11, 47)) (by decide +kernel) (sf_X11_wrong l g A ty σ75 hok74 hTA hI76 a k_a (1) ⟨by omega, by omega⟩) ⟨co_X11_wrong, in_X11, ⟨by decide, by decide, by decide +kernel⟩, Nat.le_of_ble_eq_true rfl, Nat.le_of_ble_eq_true rfl⟩ ml_X11_225 im_X11_wrong se_X11_wrong (by rw [k_a]; rfl) rfl rfl rfl (Nat.le_of_ble_eq_true rfl) ⟨Nat.zero_le _, Nat.zero_le _⟩ (fun r92 σ93 hpo91 hok94 => ?_)
            obtain ⟨⟨qu95, rfl, kqu95⟩, hIu95, hFu95⟩ := hpo91
            have hGu95 := hF77.tr hFu95 (by decide) (by decide)
            have t96 : σ93 a 18 = n18 := (hFu95.at k_a (by decide) (by decide)).trans t78
            have t97 : σ93 a 0 = (v10 : Int) + 1 := (hFu95.at k_a (by decide) (by decide)).trans t79
            have t98 : σ93 v10 (4 : Int).toNat = v11 := (hFu95.atA kv10 (by decide) (by decide)).trans t80
            have t99 : σ93 a 5 = (v18 : Int) + 1 := (hFu95.at k_a (by decide) (by decide)).trans t81
            have t100 : σ93 v18 (vu17 : Int).toNat = Jg7_s0 := (hFu95.atA kv18 (by decide) (by decide)).trans t82
            have t101 : σ93 a 6 = (Jg42_fa_6 : Int) + 1 := (hFu95.at k_a (by decide) (by decide)).trans t83
            have t102 : σ93 a 7 = (Jg42_fa_7 : Int) + 1 := (hFu95.at k_a (by decide) (by decide)).trans t84
            have t103 : σ93 a 8 = (v58 : Int) + 1 := (hFu95.at k_a (by decide) (by decide)).trans t85
            have t104 : σ93 a 19 = c1u64 := (hFu95.at k_a (by decide) (by decide)).trans t86
            have t105 : σ93 a 20 = c2u64 := (hFu95.at k_a (by decide) (by decide)).trans t87
            have t106 : σ93 a 21 = chu64 := (hFu95.at k_a (by decide) (by decide)).trans t88
            have t107 : σ93 v58 (vu17 : Int).toNat = vu64 := (hFu95.atA kv58 (by decide) (by decide)).trans t89
            refine sv_same (st2 := [sv_r qu95]) (lv2 := [(0, sv_r a), (2, sv_i vu17)]) rfl rfl ?_
            exact st_throw C hE (by decide +kernel) hok94 ⟨kqu95, hIu95, hGu95⟩
          · refine sv_go C.1 C.2.1 [(.aload_n 0, 1)] (pc' := 257) (by decide +kernel) rfl (lv' := [(0, sv_r a), (2, sv_i vu17)]) (st' := [sv_r a]) rfl ?_
            refine sv_cv C (index := 262) (k := 0) (rest := []) (ci := 10) (r := (RX11, TX11, 47)) (by decide +kernel) (sf_X11_isQuoted l g A ty σ75 hok74 hTA hI76 a k_a (n18) ⟨by omega, by omega⟩ (c1u64) ⟨by omega, by omega⟩ (c2u64) ⟨by omega, by omega⟩ (chu64) ⟨by omega, by omega⟩ t78 t86 t87 t88 (by omega) (by omega) (by omega)) ⟨co_X11_isQuoted, in_X11, ⟨by decide, by decide, by decide +kernel⟩, Nat.le_of_ble_eq_true rfl, Nat.le_of_ble_eq_true rfl⟩ ml_X11_262 im_X11_isQuoted se_X11_isQuoted (by rw [k_a]; rfl) rfl rfl rfl (Nat.le_of_ble_eq_true rfl) ⟨Nat.zero_le _, Nat.zero_le _⟩ (fun r109 σ110 hpo108 hok111 => ?_)
            obtain ⟨rfl, ⟨vu112, rfl, hvu112⟩⟩ := hpo108
            refine sv_same (st2 := [sv_i vu112]) (lv2 := [(0, sv_r a), (2, sv_i vu17)]) rfl rfl ?_
            refine sv_if C.1 C.2.1 (cnd := .eq) (off := 9) (tgt := 269) (by decide +kernel) (by decide) ⟨by omega, by omega⟩ (fun (h113 : vu112 = 0) => ?_) (fun (h113 : ¬ (vu112 = 0)) => ?_)
            · refine sv_go C.1 C.2.1 [(.aload_n 0, 1)] (pc' := 270) (by decide +kernel) rfl (lv' := [(0, sv_r a), (2, sv_i vu17)]) (st' := [sv_r a]) rfl ?_
              obtain ⟨v114, ev114, kv114⟩ := hI76.ref (k := 11) k_a rfl
              refine sv_gf C (index := 81) (ci := 10) (k := 11) (r := (RX11, TX11, 47)) (v := sv_r v114) (by decide +kernel) (by rw [k_a]; rfl) rfl (by decide) fl_X11_81 (congrArg sv_a ev114) ?_
              refine sv_go C.1 C.2.1 [(.iload_n 2, 1), (.aload_n 0, 1)] (pc' := 275) (by decide +kernel) rfl (lv' := [(0, sv_r a), (2, sv_i vu17)]) (st' := [sv_r a, sv_i vu17, sv_r v114]) rfl ?_
              refine sv_gf C (index := 178) (ci := 10) (k := 20) (r := (RX11, TX11, 47)) (v := sv_i c2u64) (by decide +kernel) (by rw [k_a]; rfl) rfl (by decide) fl_X11_178 (congrArg sv_i t87) ?_
              refine sv_go C.1 C.2.1 [(.aload_n 0, 1)] (pc' := 279) (by decide +kernel) rfl (lv' := [(0, sv_r a), (2, sv_i vu17)]) (st' := [sv_r a, sv_i c2u64, sv_i vu17, sv_r v114]) rfl ?_
              refine sv_gf C (index := 172) (ci := 10) (k := 19) (r := (RX11, TX11, 47)) (v := sv_i c1u64) (by decide +kernel) (by rw [k_a]; rfl) rfl (by decide) fl_X11_172 (congrArg sv_i t86) ?_
              refine sv_go C.1 C.2.1 [(.isub, 1)] (pc' := 283) (by decide +kernel) rfl (lv' := [(0, sv_r a), (2, sv_i vu17)]) (st' := [sv_i (c2u64 - c1u64), sv_i vu17, sv_r v114]) rfl ?_
              refine sv_is C (n := 300) (by decide +kernel) (by rw [kv114]; rfl) (by decide) (by omega) (by omega) ⟨by omega, by omega⟩ (hTA _ (by rw [kv114]; decide)) hok111 (fun hok115 => ?_)
              have hI117 := hI76.up (a := v114) (k := (vu17 : Int).toNat) (z := c2u64 - c1u64) (by rw [kv114]; exact ⟨by omega, by omega⟩)
              have hF118 := hF77.up (a := v114) (k := (vu17 : Int).toNat) (z := c2u64 - c1u64) (Or.inl (by rw [kv114]; decide))
              generalize eσ116 : sv_up σ75 v114 (vu17 : Int).toNat (c2u64 - c1u64) = σ116 at hok115 hI117 hF118 ⊢
              have t119 : σ116 a 18 = n18 := by rw [← eσ116, sv_up_a (sv_ne k_a kv114 (by decide))]; exact t78
              have t120 : σ116 a 0 = (v10 : Int) + 1 := by rw [← eσ116, sv_up_a (sv_ne k_a kv114 (by decide))]; exact t79
              have t121 : σ116 v10 (4 : Int).toNat = v11 := by rw [← eσ116, sv_up_a (sv_ne kv10 kv114 (by decide))]; exact t80
              have t122 : σ116 a 5 = (v18 : Int) + 1 := by rw [← eσ116, sv_up_a (sv_ne k_a kv114 (by decide))]; exact t81
              have t123 : σ116 v18 (vu17 : Int).toNat = Jg7_s0 := by rw [← eσ116, sv_up_a (sv_ne kv18 kv114 (by decide))]; exact t82
              have t124 : σ116 a 6 = (Jg42_fa_6 : Int) + 1 := by rw [← eσ116, sv_up_a (sv_ne k_a kv114 (by decide))]; exact t83
              have t125 : σ116 a 7 = (Jg42_fa_7 : Int) + 1 := by rw [← eσ116, sv_up_a (sv_ne k_a kv114 (by decide))]; exact t84
              have t126 : σ116 a 8 = (v58 : Int) + 1 := by rw [← eσ116, sv_up_a (sv_ne k_a kv114 (by decide))]; exact t85
              have t127 : σ116 a 19 = c1u64 := by rw [← eσ116, sv_up_a (sv_ne k_a kv114 (by decide))]; exact t86
              have t128 : σ116 a 20 = c2u64 := by rw [← eσ116, sv_up_a (sv_ne k_a kv114 (by decide))]; exact t87
              have t129 : σ116 a 21 = chu64 := by rw [← eσ116, sv_up_a (sv_ne k_a kv114 (by decide))]; exact t88
              have t130 : σ116 v58 (vu17 : Int).toNat = vu64 := by rw [← eσ116, sv_up_a (sv_ne kv58 kv114 (by decide))]; exact t89
              have t131 : σ116 a 11 = (v114 : Int) + 1 := by rw [← eσ116, sv_up_a (sv_ne k_a kv114 (by decide))]; exact ev114
              have t132 : σ116 v114 (vu17 : Int).toNat = c2u64 - c1u64 := by rw [← eσ116]; exact sv_up_s _ _ _ _
              refine sv_go C.1 C.2.1 [(.iconst 0, 1), (.istore_n 3, 1)] (pc' := 286) (by decide +kernel) rfl (lv' := [(0, sv_r a), (2, sv_i vu17), (3, sv_i 0)]) (st' := []) rfl ?_
              have L135 : ∀ (n : Nat) (Xg133_l3 : Int) (σ134 : Nat → Nat → Int), (0 ≤ Xg133_l3 ∧ Xg133_l3 ≤ 12) → (sv_ok ty σ134) → (sv_inv sp_1 ty σ134) → (sv_ofx [(10, 19), (10, 20), (10, 21), (10, 22), (10, 23), (10, 24)] [60, 65, 66, 67, 68, 69, 70, 71, 72, 73, 74] ty σ σ134) → (σ134 a 18 = n18) → (σ134 a 0 = (v10 : Int) + 1) → (σ134 v10 (4 : Int).toNat = v11) → (σ134 a 5 = (v18 : Int) + 1) → (σ134 v18 (vu17 : Int).toNat = Jg7_s0) → (σ134 a 6 = (Jg42_fa_6 : Int) + 1) → (σ134 a 7 = (Jg42_fa_7 : Int) + 1) → (σ134 a 8 = (v58 : Int) + 1) → (σ134 a 19 = c1u64) → (σ134 a 20 = c2u64) → (σ134 a 21 = chu64) → (σ134 v58 (vu17 : Int).toNat = vu64) → (σ134 a 11 = (v114 : Int) + 1) → (σ134 v114 (vu17 : Int).toNat = c2u64 - c1u64) → (12 - Xg133_l3) < (n : Int) → st_E p l e { frames := 6, cells := 0, slots := 0, locals := 129 } s m args below meth c 7 g A ty (fun r σ' => (r = []) ∧ sv_inv sp_1 ty σ' ∧ sv_ofx [(10, 19), (10, 20), (10, 21), (10, 22), (10, 23), (10, 24)] [60, 65, 66, 67, 68, 69, 70, 71, 72, 73, 74] ty σ σ' ∧ ∃ c1 c2 hc : Int, σ' a 19 = c1 ∧ σ' a 20 = c2 ∧ σ' a 21 = hc ∧ (b1 ≤ c1 ∧ c1 ≤ c2 ∧ c2 ≤ n18) ∧ (0 ≤ hc ∧ hc ≤ 4) ∧ (hc = 0 ∨ c1 < c2) ∧ (hc ≠ 1 ∨ c2 ≤ c1 + 12)) (fun x σ' => ty x = 11 ∧ sv_inv sp_1 ty σ' ∧ sv_ofx [(10, 19), (10, 20), (10, 21), (10, 22), (10, 23), (10, 24)] [60, 65, 66, 67, 68, 69, 70, 71, 72, 73, 74] ty σ σ') σ134 286 [(0, sv_r a), (2, sv_i vu17), (3, sv_i Xg133_l3)] [] := by
                intro n
                induction n with
                | zero => intro Xg133_l3 σ134 hXg133_l3 okσ134 Iσ134 Fσ134 eσ134_0 eσ134_1 eσ134_2 eσ134_3 eσ134_4 eσ134_5 eσ134_6 eσ134_7 eσ134_8 eσ134_9 eσ134_10 eσ134_11 eσ134_12 eσ134_13 hmu; exact absurd hmu (by omega)
                | succ n ih136 =>
                  intro Xg133_l3 σ134 hXg133_l3 okσ134 Iσ134 Fσ134 eσ134_0 eσ134_1 eσ134_2 eσ134_3 eσ134_4 eσ134_5 eσ134_6 eσ134_7 eσ134_8 eσ134_9 eσ134_10 eσ134_11 eσ134_12 eσ134_13 hmu
                  refine sv_go C.1 C.2.1 [(.iload_n 3, 1), (.bipush 12, 2)] (pc' := 289) (by decide +kernel) rfl (lv' := [(0, sv_r a), (2, sv_i vu17), (3, sv_i Xg133_l3)]) (st' := [sv_i 12, sv_i Xg133_l3]) rfl ?_
                  refine sv_icmp C.1 C.2.1 (cnd := .ge) (off := 45) (tgt := 334) (by decide +kernel) (by decide) ⟨by omega, by omega⟩ ⟨by omega, by omega⟩ (fun (h137 : 12 ≤ Xg133_l3) => ?_) (fun (h137 : ¬ (12 ≤ Xg133_l3)) => ?_)
                  · refine sv_go C.1 C.2.1 [(.iconst 0, 1), (.istore_n 3, 1)] (pc' := 336) (by decide +kernel) rfl (lv' := [(0, sv_r a), (2, sv_i vu17), (3, sv_i 0)]) (st' := []) rfl ?_
                    have L139 : ∀ (n : Nat) (Xg138_l3 : Int), (0 ≤ Xg138_l3 ∧ Xg138_l3 ≤ 59) → (59 - Xg138_l3) < (n : Int) → st_E p l e { frames := 6, cells := 0, slots := 0, locals := 129 } s m args below meth c 7 g A ty (fun r σ' => (r = []) ∧ sv_inv sp_1 ty σ' ∧ sv_ofx [(10, 19), (10, 20), (10, 21), (10, 22), (10, 23), (10, 24)] [60, 65, 66, 67, 68, 69, 70, 71, 72, 73, 74] ty σ σ' ∧ ∃ c1 c2 hc : Int, σ' a 19 = c1 ∧ σ' a 20 = c2 ∧ σ' a 21 = hc ∧ (b1 ≤ c1 ∧ c1 ≤ c2 ∧ c2 ≤ n18) ∧ (0 ≤ hc ∧ hc ≤ 4) ∧ (hc = 0 ∨ c1 < c2) ∧ (hc ≠ 1 ∨ c2 ≤ c1 + 12)) (fun x σ' => ty x = 11 ∧ sv_inv sp_1 ty σ' ∧ sv_ofx [(10, 19), (10, 20), (10, 21), (10, 22), (10, 23), (10, 24)] [60, 65, 66, 67, 68, 69, 70, 71, 72, 73, 74] ty σ σ') σ134 336 [(0, sv_r a), (2, sv_i vu17), (3, sv_i Xg138_l3)] [] := by
                      intro n
                      induction n with
                      | zero => intro Xg138_l3 hXg138_l3 hmu; exact absurd hmu (by omega)
                      | succ n ih140 =>
                        intro Xg138_l3 hXg138_l3 hmu
                        refine sv_go C.1 C.2.1 [(.iload_n 3, 1), (.aload_n 0, 1)] (pc' := 338) (by decide +kernel) rfl (lv' := [(0, sv_r a), (2, sv_i vu17), (3, sv_i Xg138_l3)]) (st' := [sv_r a, sv_i Xg138_l3]) rfl ?_
                        refine sv_gf C (index := 47) (ci := 10) (k := 0) (r := (RX11, TX11, 47)) (v := sv_r v10) (by decide +kernel) (by rw [k_a]; rfl) rfl (by decide) fl_X11_47 (congrArg sv_a eσ134_1) ?_
                        refine sv_go C.1 C.2.1 [(.iconst 4, 1)] (pc' := 342) (by decide +kernel) rfl (lv' := [(0, sv_r a), (2, sv_i vu17), (3, sv_i Xg138_l3)]) (st' := [sv_i 4, sv_r v10, sv_i Xg138_l3]) rfl ?_
                        refine sv_ia C (n := 5) (by decide +kernel) (by rw [kv10]; rfl) (by decide) (by omega) (by omega) ?_
                        rw [eσ134_2]
                        refine sv_icmp C.1 C.2.1 (cnd := .ge) (off := 28) (tgt := 371) (by decide +kernel) (by decide) ⟨by omega, by omega⟩ ⟨by omega, by omega⟩ (fun (h141 : v11 ≤ Xg138_l3) => ?_) (fun (h141 : ¬ (v11 ≤ Xg138_l3)) => ?_)
                        · refine sv_go C.1 C.2.1 [(.aload_n 0, 1)] (pc' := 372) (by decide +kernel) rfl (lv' := [(0, sv_r a), (2, sv_i vu17), (3, sv_i Xg138_l3)]) (st' := [sv_r a]) rfl ?_
                          refine sv_cv C (index := 229) (k := 0) (rest := []) (ci := 10) (r := (RX11, TX11, 47)) (by decide +kernel) (sf_X11_scan l g A ty σ134 okσ134 hTA Iσ134 a k_a (n18) ⟨by omega, by omega⟩ (c2u64) ⟨by omega, by omega⟩ eσ134_0 eσ134_9 (by omega)) ⟨co_X11_scan, in_X11, ⟨by decide, by decide, by decide +kernel⟩, Nat.le_of_ble_eq_true rfl, Nat.le_of_ble_eq_true rfl⟩ ml_X11_229 im_X11_scan se_X11_scan (by rw [k_a]; rfl) rfl rfl rfl (Nat.le_of_ble_eq_true rfl) ⟨Nat.zero_le _, Nat.zero_le _⟩ (fun r143 σ144 hpo142 hok145 => ?_)
                          obtain ⟨rfl, hIu146, hFu146, xu146⟩ := hpo142
                          have hGu146 := Fσ134.tr hFu146 (by decide) (by decide)
                          have t147 : σ144 a 18 = n18 := (hFu146.at k_a (by decide) (by decide)).trans eσ134_0
                          have t148 : σ144 a 0 = (v10 : Int) + 1 := (hFu146.at k_a (by decide) (by decide)).trans eσ134_1
                          have t149 : σ144 v10 (4 : Int).toNat = v11 := (hFu146.atA kv10 (by decide) (by decide)).trans eσ134_2
                          have t150 : σ144 a 5 = (v18 : Int) + 1 := (hFu146.at k_a (by decide) (by decide)).trans eσ134_3
                          have t151 : σ144 v18 (vu17 : Int).toNat = Jg7_s0 := (hFu146.atA kv18 (by decide) (by decide)).trans eσ134_4
                          have t152 : σ144 a 6 = (Jg42_fa_6 : Int) + 1 := (hFu146.at k_a (by decide) (by decide)).trans eσ134_5
                          have t153 : σ144 a 7 = (Jg42_fa_7 : Int) + 1 := (hFu146.at k_a (by decide) (by decide)).trans eσ134_6
                          have t154 : σ144 a 8 = (v58 : Int) + 1 := (hFu146.at k_a (by decide) (by decide)).trans eσ134_7
                          have t155 : σ144 v58 (vu17 : Int).toNat = vu64 := (hFu146.atA kv58 (by decide) (by decide)).trans eσ134_11
                          have t156 : σ144 a 11 = (v114 : Int) + 1 := (hFu146.at k_a (by decide) (by decide)).trans eσ134_12
                          have t157 : σ144 v114 (vu17 : Int).toNat = c2u64 - c1u64 := (hFu146.atA kv114 (by decide) (by decide)).trans eσ134_13
                          obtain ⟨c1u146, c2u146, chu146, e19u146, e20u146, e21u146, j1u146, j2u146, j3u146, j4u146⟩ := xu146
                          refine sv_same (st2 := []) (lv2 := [(0, sv_r a), (2, sv_i vu17), (3, sv_i Xg138_l3)]) rfl rfl ?_
                          refine sv_go C.1 C.2.1 [(.aload_n 0, 1)] (pc' := 376) (by decide +kernel) rfl (lv' := [(0, sv_r a), (2, sv_i vu17), (3, sv_i Xg138_l3)]) (st' := [sv_r a]) rfl ?_
                          obtain ⟨v158, ev158, kv158⟩ := hIu146.ref (k := 12) k_a rfl
                          refine sv_gf C (index := 84) (ci := 10) (k := 12) (r := (RX11, TX11, 47)) (v := sv_r v158) (by decide +kernel) (by rw [k_a]; rfl) rfl (by decide) fl_X11_84 (congrArg sv_a ev158) ?_
                          refine sv_go C.1 C.2.1 [(.iload_n 2, 1), (.iconst 0, 1)] (pc' := 381) (by decide +kernel) rfl (lv' := [(0, sv_r a), (2, sv_i vu17), (3, sv_i Xg138_l3)]) (st' := [sv_i 0, sv_i vu17, sv_r v158]) rfl ?_
                          refine sv_zs C (n := 300) (by decide +kernel) (by rw [kv158]; rfl) (by decide) (by omega) (by omega) ⟨by omega, by omega⟩ (hTA _ (by rw [kv158]; decide)) hok145 (fun hok159 => ?_)
                          have hI161 := hIu146.up (a := v158) (k := (vu17 : Int).toNat) (z := 0) (by rw [kv158]; exact trivial)
                          have hF162 := hGu146.up (a := v158) (k := (vu17 : Int).toNat) (z := 0) (Or.inl (by rw [kv158]; decide))
                          generalize eσ160 : sv_up σ144 v158 (vu17 : Int).toNat 0 = σ160 at hok159 hI161 hF162 ⊢
                          have t163 : σ160 a 18 = n18 := by rw [← eσ160, sv_up_a (sv_ne k_a kv158 (by decide))]; exact t147
                          have t164 : σ160 a 0 = (v10 : Int) + 1 := by rw [← eσ160, sv_up_a (sv_ne k_a kv158 (by decide))]; exact t148
                          have t165 : σ160 v10 (4 : Int).toNat = v11 := by rw [← eσ160, sv_up_a (sv_ne kv10 kv158 (by decide))]; exact t149
                          have t166 : σ160 a 5 = (v18 : Int) + 1 := by rw [← eσ160, sv_up_a (sv_ne k_a kv158 (by decide))]; exact t150
                          have t167 : σ160 v18 (vu17 : Int).toNat = Jg7_s0 := by rw [← eσ160, sv_up_a (sv_ne kv18 kv158 (by decide))]; exact t151
                          have t168 : σ160 a 6 = (Jg42_fa_6 : Int) + 1 := by rw [← eσ160, sv_up_a (sv_ne k_a kv158 (by decide))]; exact t152
                          have t169 : σ160 a 7 = (Jg42_fa_7 : Int) + 1 := by rw [← eσ160, sv_up_a (sv_ne k_a kv158 (by decide))]; exact t153
                          have t170 : σ160 a 8 = (v58 : Int) + 1 := by rw [← eσ160, sv_up_a (sv_ne k_a kv158 (by decide))]; exact t154
                          have t171 : σ160 v58 (vu17 : Int).toNat = vu64 := by rw [← eσ160, sv_up_a (sv_ne kv58 kv158 (by decide))]; exact t155
                          have t172 : σ160 a 11 = (v114 : Int) + 1 := by rw [← eσ160, sv_up_a (sv_ne k_a kv158 (by decide))]; exact t156
                          have t173 : σ160 v114 (vu17 : Int).toNat = c2u64 - c1u64 := by rw [← eσ160, sv_up_a (sv_ne kv114 kv158 (by decide))]; exact t157
                          have t174 : σ160 a 19 = c1u146 := by rw [← eσ160, sv_up_a (sv_ne k_a kv158 (by decide))]; exact e19u146
                          have t175 : σ160 a 20 = c2u146 := by rw [← eσ160, sv_up_a (sv_ne k_a kv158 (by decide))]; exact e20u146
                          have t176 : σ160 a 21 = chu146 := by rw [← eσ160, sv_up_a (sv_ne k_a kv158 (by decide))]; exact e21u146
                          have t177 : σ160 a 12 = (v158 : Int) + 1 := by rw [← eσ160, sv_up_a (sv_ne k_a kv158 (by decide))]; exact ev158
                          have t178 : σ160 v158 (vu17 : Int).toNat = 0 := by rw [← eσ160]; exact sv_up_s _ _ _ _
                          refine sv_go C.1 C.2.1 [(.aload_n 0, 1)] (pc' := 383) (by decide +kernel) rfl (lv' := [(0, sv_r a), (2, sv_i vu17), (3, sv_i Xg138_l3)]) (st' := [sv_r a]) rfl ?_
                          obtain ⟨v179, ev179, kv179⟩ := hI161.ref (k := 13) k_a rfl
                          refine sv_gf C (index := 88) (ci := 10) (k := 13) (r := (RX11, TX11, 47)) (v := sv_r v179) (by decide +kernel) (by rw [k_a]; rfl) rfl (by decide) fl_X11_88 (congrArg sv_a ev179) ?_
                          refine sv_go C.1 C.2.1 [(.iload_n 2, 1), (.iconst 0, 1)] (pc' := 388) (by decide +kernel) rfl (lv' := [(0, sv_r a), (2, sv_i vu17), (3, sv_i Xg138_l3)]) (st' := [sv_i 0, sv_i vu17, sv_r v179]) rfl ?_
                          refine sv_zs C (n := 300) (by decide +kernel) (by rw [kv179]; rfl) (by decide) (by omega) (by omega) ⟨by omega, by omega⟩ (hTA _ (by rw [kv179]; decide)) hok159 (fun hok180 => ?_)
                          have hI182 := hI161.up (a := v179) (k := (vu17 : Int).toNat) (z := 0) (by rw [kv179]; exact trivial)
                          have hF183 := hF162.up (a := v179) (k := (vu17 : Int).toNat) (z := 0) (Or.inl (by rw [kv179]; decide))
                          generalize eσ181 : sv_up σ160 v179 (vu17 : Int).toNat 0 = σ181 at hok180 hI182 hF183 ⊢
                          have t184 : σ181 a 18 = n18 := by rw [← eσ181, sv_up_a (sv_ne k_a kv179 (by decide))]; exact t163
                          have t185 : σ181 a 0 = (v10 : Int) + 1 := by rw [← eσ181, sv_up_a (sv_ne k_a kv179 (by decide))]; exact t164
                          have t186 : σ181 v10 (4 : Int).toNat = v11 := by rw [← eσ181, sv_up_a (sv_ne kv10 kv179 (by decide))]; exact t165
                          have t187 : σ181 a 5 = (v18 : Int) + 1 := by rw [← eσ181, sv_up_a (sv_ne k_a kv179 (by decide))]; exact t166
                          have t188 : σ181 v18 (vu17 : Int).toNat = Jg7_s0 := by rw [← eσ181, sv_up_a (sv_ne kv18 kv179 (by decide))]; exact t167
                          have t189 : σ181 a 6 = (Jg42_fa_6 : Int) + 1 := by rw [← eσ181, sv_up_a (sv_ne k_a kv179 (by decide))]; exact t168
                          have t190 : σ181 a 7 = (Jg42_fa_7 : Int) + 1 := by rw [← eσ181, sv_up_a (sv_ne k_a kv179 (by decide))]; exact t169
                          have t191 : σ181 a 8 = (v58 : Int) + 1 := by rw [← eσ181, sv_up_a (sv_ne k_a kv179 (by decide))]; exact t170
                          have t192 : σ181 v58 (vu17 : Int).toNat = vu64 := by rw [← eσ181, sv_up_a (sv_ne kv58 kv179 (by decide))]; exact t171
                          have t193 : σ181 a 11 = (v114 : Int) + 1 := by rw [← eσ181, sv_up_a (sv_ne k_a kv179 (by decide))]; exact t172
                          have t194 : σ181 v114 (vu17 : Int).toNat = c2u64 - c1u64 := by rw [← eσ181, sv_up_a (sv_ne kv114 kv179 (by decide))]; exact t173
                          have t195 : σ181 a 19 = c1u146 := by rw [← eσ181, sv_up_a (sv_ne k_a kv179 (by decide))]; exact t174
                          have t196 : σ181 a 20 = c2u146 := by rw [← eσ181, sv_up_a (sv_ne k_a kv179 (by decide))]; exact t175
                          have t197 : σ181 a 21 = chu146 := by rw [← eσ181, sv_up_a (sv_ne k_a kv179 (by decide))]; exact t176
                          have t198 : σ181 a 12 = (v158 : Int) + 1 := by rw [← eσ181, sv_up_a (sv_ne k_a kv179 (by decide))]; exact t177
                          have t199 : σ181 v158 (vu17 : Int).toNat = 0 := by rw [← eσ181, sv_up_a (sv_ne kv158 kv179 (by decide))]; exact t178
                          have t200 : σ181 a 13 = (v179 : Int) + 1 := by rw [← eσ181, sv_up_a (sv_ne k_a kv179 (by decide))]; exact ev179
                          have t201 : σ181 v179 (vu17 : Int).toNat = 0 := by rw [← eσ181]; exact sv_up_s _ _ _ _
                          refine sv_go C.1 C.2.1 [(.aload_n 0, 1)] (pc' := 390) (by decide +kernel) rfl (lv' := [(0, sv_r a), (2, sv_i vu17), (3, sv_i Xg138_l3)]) (st' := [sv_r a]) rfl ?_
                          obtain ⟨v202, ev202, kv202⟩ := hI182.ref (k := 9) k_a rfl
                          refine sv_gf C (index := 75) (ci := 10) (k := 9) (r := (RX11, TX11, 47)) (v := sv_r v202) (by decide +kernel) (by rw [k_a]; rfl) rfl (by decide) fl_X11_75 (congrArg sv_a ev202) ?_
                          refine sv_go C.1 C.2.1 [(.iload_n 2, 1), (.iconst 1, 1)] (pc' := 395) (by decide +kernel) rfl (lv' := [(0, sv_r a), (2, sv_i vu17), (3, sv_i Xg138_l3)]) (st' := [sv_i 1, sv_i vu17, sv_r v202]) rfl ?_
                          refine sv_is C (n := 300) (by decide +kernel) (by rw [kv202]; rfl) (by decide) (by omega) (by omega) ⟨by omega, by omega⟩ (hTA _ (by rw [kv202]; decide)) hok180 (fun hok203 => ?_)
                          have hI205 := hI182.up (a := v202) (k := (vu17 : Int).toNat) (z := 1) (by rw [kv202]; exact trivial)
                          have hF206 := hF183.up (a := v202) (k := (vu17 : Int).toNat) (z := 1) (Or.inl (by rw [kv202]; decide))
                          generalize eσ204 : sv_up σ181 v202 (vu17 : Int).toNat 1 = σ204 at hok203 hI205 hF206 ⊢
                          have t207 : σ204 a 18 = n18 := by rw [← eσ204, sv_up_a (sv_ne k_a kv202 (by decide))]; exact t184
                          have t208 : σ204 a 0 = (v10 : Int) + 1 := by rw [← eσ204, sv_up_a (sv_ne k_a kv202 (by decide))]; exact t185
                          have t209 : σ204 v10 (4 : Int).toNat = v11 := by rw [← eσ204, sv_up_a (sv_ne kv10 kv202 (by decide))]; exact t186
                          have t210 : σ204 a 5 = (v18 : Int) + 1 := by rw [← eσ204, sv_up_a (sv_ne k_a kv202 (by decide))]; exact t187
                          have t211 : σ204 v18 (vu17 : Int).toNat = Jg7_s0 := by rw [← eσ204, sv_up_a (sv_ne kv18 kv202 (by decide))]; exact t188
                          have t212 : σ204 a 6 = (Jg42_fa_6 : Int) + 1 := by rw [← eσ204, sv_up_a (sv_ne k_a kv202 (by decide))]; exact t189
                          have t213 : σ204 a 7 = (Jg42_fa_7 : Int) + 1 := by rw [← eσ204, sv_up_a (sv_ne k_a kv202 (by decide))]; exact t190
                          have t214 : σ204 a 8 = (v58 : Int) + 1 := by rw [← eσ204, sv_up_a (sv_ne k_a kv202 (by decide))]; exact t191
                          have t215 : σ204 v58 (vu17 : Int).toNat = vu64 := by rw [← eσ204, sv_up_a (sv_ne kv58 kv202 (by decide))]; exact t192
                          have t216 : σ204 a 11 = (v114 : Int) + 1 := by rw [← eσ204, sv_up_a (sv_ne k_a kv202 (by decide))]; exact t193
                          have t217 : σ204 v114 (vu17 : Int).toNat = c2u64 - c1u64 := by rw [← eσ204, sv_up_a (sv_ne kv114 kv202 (by decide))]; exact t194
                          have t218 : σ204 a 19 = c1u146 := by rw [← eσ204, sv_up_a (sv_ne k_a kv202 (by decide))]; exact t195
                          have t219 : σ204 a 20 = c2u146 := by rw [← eσ204, sv_up_a (sv_ne k_a kv202 (by decide))]; exact t196
                          have t220 : σ204 a 21 = chu146 := by rw [← eσ204, sv_up_a (sv_ne k_a kv202 (by decide))]; exact t197
                          have t221 : σ204 a 12 = (v158 : Int) + 1 := by rw [← eσ204, sv_up_a (sv_ne k_a kv202 (by decide))]; exact t198
                          have t222 : σ204 v158 (vu17 : Int).toNat = 0 := by rw [← eσ204, sv_up_a (sv_ne kv158 kv202 (by decide))]; exact t199
                          have t223 : σ204 a 13 = (v179 : Int) + 1 := by rw [← eσ204, sv_up_a (sv_ne k_a kv202 (by decide))]; exact t200
                          have t224 : σ204 v179 (vu17 : Int).toNat = 0 := by rw [← eσ204, sv_up_a (sv_ne kv179 kv202 (by decide))]; exact t201
                          have t225 : σ204 a 9 = (v202 : Int) + 1 := by rw [← eσ204, sv_up_a (sv_ne k_a kv202 (by decide))]; exact ev202
                          have t226 : σ204 v202 (vu17 : Int).toNat = 1 := by rw [← eσ204]; exact sv_up_s _ _ _ _
                          refine sv_go C.1 C.2.1 [(.aload_n 0, 1)] (pc' := 397) (by decide +kernel) rfl (lv' := [(0, sv_r a), (2, sv_i vu17), (3, sv_i Xg138_l3)]) (st' := [sv_r a]) rfl ?_
                          obtain ⟨v227, ev227, kv227⟩ := hI205.ref (k := 10) k_a rfl
                          refine sv_gf C (index := 78) (ci := 10) (k := 10) (r := (RX11, TX11, 47)) (v := sv_r v227) (by decide +kernel) (by rw [k_a]; rfl) rfl (by decide) fl_X11_78 (congrArg sv_a ev227) ?_
                          refine sv_go C.1 C.2.1 [(.iload_n 2, 1), (.sipush 2000, 3)] (pc' := 404) (by decide +kernel) rfl (lv' := [(0, sv_r a), (2, sv_i vu17), (3, sv_i Xg138_l3)]) (st' := [sv_i 2000, sv_i vu17, sv_r v227]) rfl ?_
                          refine sv_is C (n := 300) (by decide +kernel) (by rw [kv227]; rfl) (by decide) (by omega) (by omega) ⟨by omega, by omega⟩ (hTA _ (by rw [kv227]; decide)) hok203 (fun hok228 => ?_)
                          have hI230 := hI205.up (a := v227) (k := (vu17 : Int).toNat) (z := 2000) (by rw [kv227]; exact trivial)
                          have hF231 := hF206.up (a := v227) (k := (vu17 : Int).toNat) (z := 2000) (Or.inl (by rw [kv227]; decide))
                          generalize eσ229 : sv_up σ204 v227 (vu17 : Int).toNat 2000 = σ229 at hok228 hI230 hF231 ⊢
                          have t232 : σ229 a 18 = n18 := by rw [← eσ229, sv_up_a (sv_ne k_a kv227 (by decide))]; exact t207
                          have t233 : σ229 a 0 = (v10 : Int) + 1 := by rw [← eσ229, sv_up_a (sv_ne k_a kv227 (by decide))]; exact t208
                          have t234 : σ229 v10 (4 : Int).toNat = v11 := by rw [← eσ229, sv_up_a (sv_ne kv10 kv227 (by decide))]; exact t209
                          have t235 : σ229 a 5 = (v18 : Int) + 1 := by rw [← eσ229, sv_up_a (sv_ne k_a kv227 (by decide))]; exact t210
                          have t236 : σ229 v18 (vu17 : Int).toNat = Jg7_s0 := by rw [← eσ229, sv_up_a (sv_ne kv18 kv227 (by decide))]; exact t211
                          have t237 : σ229 a 6 = (Jg42_fa_6 : Int) + 1 := by rw [← eσ229, sv_up_a (sv_ne k_a kv227 (by decide))]; exact t212
                          have t238 : σ229 a 7 = (Jg42_fa_7 : Int) + 1 := by rw [← eσ229, sv_up_a (sv_ne k_a kv227 (by decide))]; exact t213
                          have t239 : σ229 a 8 = (v58 : Int) + 1 := by rw [← eσ229, sv_up_a (sv_ne k_a kv227 (by decide))]; exact t214
                          have t240 : σ229 v58 (vu17 : Int).toNat = vu64 := by rw [← eσ229, sv_up_a (sv_ne kv58 kv227 (by decide))]; exact t215
                          have t241 : σ229 a 11 = (v114 : Int) + 1 := by rw [← eσ229, sv_up_a (sv_ne k_a kv227 (by decide))]; exact t216
                          have t242 : σ229 v114 (vu17 : Int).toNat = c2u64 - c1u64 := by rw [← eσ229, sv_up_a (sv_ne kv114 kv227 (by decide))]; exact t217
                          have t243 : σ229 a 19 = c1u146 := by rw [← eσ229, sv_up_a (sv_ne k_a kv227 (by decide))]; exact t218
                          have t244 : σ229 a 20 = c2u146 := by rw [← eσ229, sv_up_a (sv_ne k_a kv227 (by decide))]; exact t219
                          have t245 : σ229 a 21 = chu146 := by rw [← eσ229, sv_up_a (sv_ne k_a kv227 (by decide))]; exact t220
                          have t246 : σ229 a 12 = (v158 : Int) + 1 := by rw [← eσ229, sv_up_a (sv_ne k_a kv227 (by decide))]; exact t221
                          have t247 : σ229 v158 (vu17 : Int).toNat = 0 := by rw [← eσ229, sv_up_a (sv_ne kv158 kv227 (by decide))]; exact t222
                          have t248 : σ229 a 13 = (v179 : Int) + 1 := by rw [← eσ229, sv_up_a (sv_ne k_a kv227 (by decide))]; exact t223
                          have t249 : σ229 v179 (vu17 : Int).toNat = 0 := by rw [← eσ229, sv_up_a (sv_ne kv179 kv227 (by decide))]; exact t224
                          have t250 : σ229 a 9 = (v202 : Int) + 1 := by rw [← eσ229, sv_up_a (sv_ne k_a kv227 (by decide))]; exact t225
                          have t251 : σ229 v202 (vu17 : Int).toNat = 1 := by rw [← eσ229, sv_up_a (sv_ne kv202 kv227 (by decide))]; exact t226
                          have t252 : σ229 a 10 = (v227 : Int) + 1 := by rw [← eσ229, sv_up_a (sv_ne k_a kv227 (by decide))]; exact ev227
                          have t253 : σ229 v227 (vu17 : Int).toNat = 2000 := by rw [← eσ229]; exact sv_up_s _ _ _ _
                          refine sv_go C.1 C.2.1 [(.iconst 0, 1), (.istore_n 3, 1), (.iconst 0, 1), (.istore 4, 2)] (pc' := 410) (by decide +kernel) rfl (lv' := [(0, sv_r a), (2, sv_i vu17), (3, sv_i 0), (4, sv_i 0)]) (st' := []) rfl ?_
                          have L256 : ∀ (n : Nat) (Xg254_l3 : Int) (Xg254_l4 : Int) (Xg254_fa_19 : Int) (Xg254_fa_20 : Int) (Xg254_fa_21 : Int) (Xg254_e15 : Int) (Xg254_e17 : Int) (Xg254_e19 : Int) (Xg254_e21 : Int) (σ255 : Nat → Nat → Int), (0 ≤ Xg254_l3 ∧ Xg254_l3 ≤ 1) → (0 ≤ Xg254_l4 ∧ Xg254_l4 ≤ 1) → (0 ≤ Xg254_fa_19 ∧ Xg254_fa_19 ≤ 4000) → (0 ≤ Xg254_fa_20 ∧ Xg254_fa_20 ≤ 4000) → (0 ≤ Xg254_fa_21 ∧ Xg254_fa_21 ≤ 4) → (0 ≤ Xg254_e15 ∧ Xg254_e15 ≤ 1) → (0 ≤ Xg254_e17 ∧ Xg254_e17 ≤ 1) → (1 ≤ Xg254_e19 ∧ Xg254_e19 ≤ 2000) → (1 ≤ Xg254_e21 ∧ Xg254_e21 ≤ 2000) → (sv_ok ty σ255) → (sv_inv sp_1 ty σ255) → (sv_ofx [(10, 19), (10, 20), (10, 21), (10, 22), (10, 23), (10, 24)] [60, 65, 66, 67, 68, 69, 70, 71, 72, 73, 74] ty σ σ255) → (σ255 a 18 = n18) → (σ255 a 0 = (v10 : Int) + 1) → (σ255 v10 (4 : Int).toNat = v11) → (σ255 a 5 = (v18 : Int) + 1) → (σ255 v18 (vu17 : Int).toNat = Jg7_s0) → (σ255 a 6 = (Jg42_fa_6 : Int) + 1) → (σ255 a 7 = (Jg42_fa_7 : Int) + 1) → (σ255 a 8 = (v58 : Int) + 1) → (σ255 v58 (vu17 : Int).toNat = vu64) → (σ255 a 11 = (v114 : Int) + 1) → (σ255 v114 (vu17 : Int).toNat = c2u64 - c1u64) → (σ255 a 19 = Xg254_fa_19) → (σ255 a 20 = Xg254_fa_20) → (σ255 a 21 = Xg254_fa_21) → (σ255 a 12 = (v158 : Int) + 1) → (σ255 v158 (vu17 : Int).toNat = Xg254_e15) → (σ255 a 13 = (v179 : Int) + 1) → (σ255 v179 (vu17 : Int).toNat = Xg254_e17) → (σ255 a 9 = (v202 : Int) + 1) → (σ255 v202 (vu17 : Int).toNat = Xg254_e19) → (σ255 a 10 = (v227 : Int) + 1) → (σ255 v227 (vu17 : Int).toNat = Xg254_e21) → (b1 ≤ Xg254_fa_19 ∧ Xg254_fa_19 ≤ Xg254_fa_20 ∧ Xg254_fa_20 ≤ n18 ∧ (Xg254_fa_21 = 0 ∨ Xg254_fa_19 < Xg254_fa_20) ∧ (Xg254_fa_21 ≠ 1 ∨ Xg254_fa_20 ≤ Xg254_fa_19 + 12)) → (n18 - Xg254_fa_19) < (n : Int) → st_E p l e { frames := 6, cells := 0, slots := 0, locals := 129 } s m args below meth c 7 g A ty (fun r σ' => (r = []) ∧ sv_inv sp_1 ty σ' ∧ sv_ofx [(10, 19), (10, 20), (10, 21), (10, 22), (10, 23), (10, 24)] [60, 65, 66, 67, 68, 69, 70, 71, 72, 73, 74] ty σ σ' ∧ ∃ c1 c2 hc : Int, σ' a 19 = c1 ∧ σ' a 20 = c2 ∧ σ' a 21 = hc ∧ (b1 ≤ c1 ∧ c1 ≤ c2 ∧ c2 ≤ n18) ∧ (0 ≤ hc ∧ hc ≤ 4) ∧ (hc = 0 ∨ c1 < c2) ∧ (hc ≠ 1 ∨ c2 ≤ c1 + 12)) (fun x σ' => ty x = 11 ∧ sv_inv sp_1 ty σ' ∧ sv_ofx [(10, 19), (10, 20), (10, 21), (10, 22), (10, 23), (10, 24)] [60, 65, 66, 67, 68, 69, 70, 71, 72, 73, 74] ty σ σ') σ255 410 [(0, sv_r a), (2, sv_i vu17), (3, sv_i Xg254_l3), (4, sv_i Xg254_l4)] [] := by
                            intro n
                            induction n with
                            | zero => intro Xg254_l3 Xg254_l4 Xg254_fa_19 Xg254_fa_20 Xg254_fa_21 Xg254_e15 Xg254_e17 Xg254_e19 Xg254_e21 σ255 hXg254_l3 hXg254_l4 hXg254_fa_19 hXg254_fa_20 hXg254_fa_21 hXg254_e15 hXg254_e17 hXg254_e19 hXg254_e21 okσ255 Iσ255 Fσ255 eσ255_0 eσ255_1 eσ255_2 eσ255_3 eσ255_4 eσ255_5 eσ255_6 eσ255_7 eσ255_8 eσ255_9 eσ255_10 eσ255_11 eσ255_12 eσ255_13 eσ255_14 eσ255_15 eσ255_16 eσ255_17 eσ255_18 eσ255_19 eσ255_20 eσ255_21 hL hmu; exact absurd hmu (by omega)
                            | succ n ih257 =>
                              intro Xg254_l3 Xg254_l4 Xg254_fa_19 Xg254_fa_20 Xg254_fa_21 Xg254_e15 Xg254_e17 Xg254_e19 Xg254_e21 σ255 hXg254_l3 hXg254_l4 hXg254_fa_19 hXg254_fa_20 hXg254_fa_21 hXg254_e15 hXg254_e17 hXg254_e19 hXg254_e21 okσ255 Iσ255 Fσ255 eσ255_0 eσ255_1 eσ255_2 eσ255_3 eσ255_4 eσ255_5 eσ255_6 eσ255_7 eσ255_8 eσ255_9 eσ255_10 eσ255_11 eσ255_12 eσ255_13 eσ255_14 eσ255_15 eσ255_16 eσ255_17 eσ255_18 eσ255_19 eσ255_20 eσ255_21 hL hmu
                              refine sv_go C.1 C.2.1 [(.aload_n 0, 1)] (pc' := 411) (by decide +kernel) rfl (lv' := [(0, sv_r a), (2, sv_i vu17), (3, sv_i Xg254_l3), (4, sv_i Xg254_l4)]) (st' := [sv_r a]) rfl ?_
                              refine sq_ldc C (index := 217) (tx := "vigil") 19 (by decide) rfl (by decide +kernel) ?_
                              refine sv_cv C (index := 208) (k := 1) (rest := []) (ci := 10) (r := (RX11, TX11, 47)) (by decide +kernel) (sf_X11_is l g A ty σ255 okσ255 hTA Iσ255 a k_a 19 (by decide) (n18) ⟨by omega, by omega⟩ (Xg254_fa_19) ⟨by omega, by omega⟩ (Xg254_fa_20) ⟨by omega, by omega⟩ (Xg254_fa_21) ⟨by omega, by omega⟩ eσ255_0 eσ255_11 eσ255_12 eσ255_13 (by omega) (by omega) (by omega)) ⟨co_X11_is, in_X11, ⟨by decide, by decide, by decide +kernel⟩, Nat.le_of_ble_eq_true rfl, Nat.le_of_ble_eq_true rfl⟩ ml_X11_208 im_X11_is se_X11_is (by rw [k_a]; rfl) rfl rfl rfl (Nat.le_of_ble_eq_true rfl) ⟨Nat.zero_le _, Nat.zero_le _⟩ (fun r259 σ260 hpo258 hok261 => ?_)
                              obtain ⟨rfl, ⟨vu262, rfl, hvu262, ivu262_0⟩⟩ := hpo258
                              refine sv_same (st2 := [sv_i vu262]) (lv2 := [(0, sv_r a), (2, sv_i vu17), (3, sv_i Xg254_l3), (4, sv_i Xg254_l4)]) rfl rfl ?_
                              have J265 : (Xg254_fa_21 = 1) → st_E p l e { frames := 6, cells := 0, slots := 0, locals := 129 } s m args below meth c 7 g A ty (fun r σ' => (r = []) ∧ sv_inv sp_1 ty σ' ∧ sv_ofx [(10, 19), (10, 20), (10, 21), (10, 22), (10, 23), (10, 24)] [60, 65, 66, 67, 68, 69, 70, 71, 72, 73, 74] ty σ σ' ∧ ∃ c1 c2 hc : Int, σ' a 19 = c1 ∧ σ' a 20 = c2 ∧ σ' a 21 = hc ∧ (b1 ≤ c1 ∧ c1 ≤ c2 ∧ c2 ≤ n18) ∧ (0 ≤ hc ∧ hc ≤ 4) ∧ (hc = 0 ∨ c1 < c2) ∧ (hc ≠ 1 ∨ c2 ≤ c1 + 12)) (fun x σ' => ty x = 11 ∧ sv_inv sp_1 ty σ' ∧ sv_ofx [(10, 19), (10, 20), (10, 21), (10, 22), (10, 23), (10, 24)] [60, 65, 66, 67, 68, 69, 70, 71, 72, 73, 74] ty σ σ') σ255 446 [(0, sv_r a), (2, sv_i vu17), (3, sv_i Xg254_l3), (4, sv_i Xg254_l4)] [] := by
                                intro zj446
                                refine sv_go C.1 C.2.1 [(.aload_n 0, 1)] (pc' := 447) (by decide +kernel) rfl (lv' := [(0, sv_r a), (2, sv_i vu17), (3, sv_i Xg254_l3), (4, sv_i Xg254_l4)]) (st' := [sv_r a]) rfl ?_
                                refine sq_ldc C (index := 217) (tx := "vigil") 19 (by decide) rfl (by decide +kernel) ?_
                                refine sv_cv C (index := 208) (k := 1) (rest := []) (ci := 10) (r := (RX11, TX11, 47)) (by decide +kernel) (sf_X11_is l g A ty σ255 hok261 hTA Iσ255 a k_a 19 (by decide) (n18) ⟨by omega, by omega⟩ (Xg254_fa_19) ⟨by omega, by omega⟩ (Xg254_fa_20) ⟨by omega, by omega⟩ (Xg254_fa_21) ⟨by omega, by omega⟩ eσ255_0 eσ255_11 eσ255_12 eσ255_13 (by omega) (by omega) (by omega)) ⟨co_X11_is, in_X11, ⟨by decide, by decide, by decide +kernel⟩, Nat.le_of_ble_eq_true rfl, Nat.le_of_ble_eq_true rfl⟩ ml_X11_208 im_X11_is se_X11_is (by rw [k_a]; rfl) rfl rfl rfl (Nat.le_of_ble_eq_true rfl) ⟨Nat.zero_le _, Nat.zero_le _⟩ (fun r267 σ268 hpo266 hok269 => ?_)
                                obtain ⟨rfl, ⟨vu270, rfl, hvu270, ivu270_0⟩⟩ := hpo266
                                refine sv_same (st2 := [sv_i vu270]) (lv2 := [(0, sv_r a), (2, sv_i vu17), (3, sv_i Xg254_l3), (4, sv_i Xg254_l4)]) rfl rfl ?_
                                have J273 : st_E p l e { frames := 6, cells := 0, slots := 0, locals := 129 } s m args below meth c 7 g A ty (fun r σ' => (r = []) ∧ sv_inv sp_1 ty σ' ∧ sv_ofx [(10, 19), (10, 20), (10, 21), (10, 22), (10, 23), (10, 24)] [60, 65, 66, 67, 68, 69, 70, 71, 72, 73, 74] ty σ σ' ∧ ∃ c1 c2 hc : Int, σ' a 19 = c1 ∧ σ' a 20 = c2 ∧ σ' a 21 = hc ∧ (b1 ≤ c1 ∧ c1 ≤ c2 ∧ c2 ≤ n18) ∧ (0 ≤ hc ∧ hc ≤ 4) ∧ (hc = 0 ∨ c1 < c2) ∧ (hc ≠ 1 ∨ c2 ≤ c1 + 12)) (fun x σ' => ty x = 11 ∧ sv_inv sp_1 ty σ' ∧ sv_ofx [(10, 19), (10, 20), (10, 21), (10, 22), (10, 23), (10, 24)] [60, 65, 66, 67, 68, 69, 70, 71, 72, 73, 74] ty σ σ') σ255 464 [(0, sv_r a), (2, sv_i vu17), (3, sv_i Xg254_l3), (4, sv_i Xg254_l4)] [] := by
                                  refine sv_go C.1 C.2.1 [(.aload_n 0, 1)] (pc' := 465) (by decide +kernel) rfl (lv' := [(0, sv_r a), (2, sv_i vu17), (3, sv_i Xg254_l3), (4, sv_i Xg254_l4)]) (st' := [sv_r a]) rfl ?_
                                  refine sq_ldc C (index := 218) (tx := "octave") 20 (by decide) rfl (by decide +kernel) ?_
                                  refine sv_cv C (index := 208) (k := 1) (rest := []) (ci := 10) (r := (RX11, TX11, 47)) (by decide +kernel) (sf_X11_is l g A ty σ255 hok269 hTA Iσ255 a k_a 20 (by decide) (n18) ⟨by omega, by omega⟩ (Xg254_fa_19) ⟨by omega, by omega⟩ (Xg254_fa_20) ⟨by omega, by omega⟩ (Xg254_fa_21) ⟨by omega, by omega⟩ eσ255_0 eσ255_11 eσ255_12 eσ255_13 (by omega) (by omega) (by omega)) ⟨co_X11_is, in_X11, ⟨by decide, by decide, by decide +kernel⟩, Nat.le_of_ble_eq_true rfl, Nat.le_of_ble_eq_true rfl⟩ ml_X11_208 im_X11_is se_X11_is (by rw [k_a]; rfl) rfl rfl rfl (Nat.le_of_ble_eq_true rfl) ⟨Nat.zero_le _, Nat.zero_le _⟩ (fun r275 σ276 hpo274 hok277 => ?_)
                                  obtain ⟨rfl, ⟨vu278, rfl, hvu278, ivu278_0⟩⟩ := hpo274
                                  refine sv_same (st2 := [sv_i vu278]) (lv2 := [(0, sv_r a), (2, sv_i vu17), (3, sv_i Xg254_l3), (4, sv_i Xg254_l4)]) rfl rfl ?_
                                  have J281 : st_E p l e { frames := 6, cells := 0, slots := 0, locals := 129 } s m args below meth c 7 g A ty (fun r σ' => (r = []) ∧ sv_inv sp_1 ty σ' ∧ sv_ofx [(10, 19), (10, 20), (10, 21), (10, 22), (10, 23), (10, 24)] [60, 65, 66, 67, 68, 69, 70, 71, 72, 73, 74] ty σ σ' ∧ ∃ c1 c2 hc : Int, σ' a 19 = c1 ∧ σ' a 20 = c2 ∧ σ' a 21 = hc ∧ (b1 ≤ c1 ∧ c1 ≤ c2 ∧ c2 ≤ n18) ∧ (0 ≤ hc ∧ hc ≤ 4) ∧ (hc = 0 ∨ c1 < c2) ∧ (hc ≠ 1 ∨ c2 ≤ c1 + 12)) (fun x σ' => ty x = 11 ∧ sv_inv sp_1 ty σ' ∧ sv_ofx [(10, 19), (10, 20), (10, 21), (10, 22), (10, 23), (10, 24)] [60, 65, 66, 67, 68, 69, 70, 71, 72, 73, 74] ty σ σ') σ255 482 [(0, sv_r a), (2, sv_i vu17), (3, sv_i Xg254_l3), (4, sv_i Xg254_l4)] [] := by
                                    refine sv_go C.1 C.2.1 [(.aload_n 0, 1)] (pc' := 483) (by decide +kernel) rfl (lv' := [(0, sv_r a), (2, sv_i vu17), (3, sv_i Xg254_l3), (4, sv_i Xg254_l4)]) (st' := [sv_r a]) rfl ?_
                                    refine sq_ldc C (index := 219) (tx := "from") 21 (by decide) rfl (by decide +kernel) ?_
                                    refine sv_cv C (index := 208) (k := 1) (rest := []) (ci := 10) (r := (RX11, TX11, 47)) (by decide +kernel) (sf_X11_is l g A ty σ255 hok277 hTA Iσ255 a k_a 21 (by decide) (n18) ⟨by omega, by omega⟩ (Xg254_fa_19) ⟨by omega, by omega⟩ (Xg254_fa_20) ⟨by omega, by omega⟩ (Xg254_fa_21) ⟨by omega, by omega⟩ eσ255_0 eσ255_11 eσ255_12 eσ255_13 (by omega) (by omega) (by omega)) ⟨co_X11_is, in_X11, ⟨by decide, by decide, by decide +kernel⟩, Nat.le_of_ble_eq_true rfl, Nat.le_of_ble_eq_true rfl⟩ ml_X11_208 im_X11_is se_X11_is (by rw [k_a]; rfl) rfl rfl rfl (Nat.le_of_ble_eq_true rfl) ⟨Nat.zero_le _, Nat.zero_le _⟩ (fun r283 σ284 hpo282 hok285 => ?_)
                                    obtain ⟨rfl, ⟨vu286, rfl, hvu286, ivu286_0⟩⟩ := hpo282
                                    refine sv_same (st2 := [sv_i vu286]) (lv2 := [(0, sv_r a), (2, sv_i vu17), (3, sv_i Xg254_l3), (4, sv_i Xg254_l4)]) rfl rfl ?_
                                    have J289 : st_E p l e { frames := 6, cells := 0, slots := 0, locals := 129 } s m args below meth c 7 g A ty (fun r σ' => (r = []) ∧ sv_inv sp_1 ty σ' ∧ sv_ofx [(10, 19), (10, 20), (10, 21), (10, 22), (10, 23), (10, 24)] [60, 65, 66, 67, 68, 69, 70, 71, 72, 73, 74] ty σ σ' ∧ ∃ c1 c2 hc : Int, σ' a 19 = c1 ∧ σ' a 20 = c2 ∧ σ' a 21 = hc ∧ (b1 ≤ c1 ∧ c1 ≤ c2 ∧ c2 ≤ n18) ∧ (0 ≤ hc ∧ hc ≤ 4) ∧ (hc = 0 ∨ c1 < c2) ∧ (hc ≠ 1 ∨ c2 ≤ c1 + 12)) (fun x σ' => ty x = 11 ∧ sv_inv sp_1 ty σ' ∧ sv_ofx [(10, 19), (10, 20), (10, 21), (10, 22), (10, 23), (10, 24)] [60, 65, 66, 67, 68, 69, 70, 71, 72, 73, 74] ty σ σ') σ255 495 [(0, sv_r a), (2, sv_i vu17), (3, sv_i Xg254_l3), (4, sv_i Xg254_l4)] [] := by
                                      refine sv_go C.1 C.2.1 [(.aload_n 0, 1)] (pc' := 496) (by decide +kernel) rfl (lv' := [(0, sv_r a), (2, sv_i vu17), (3, sv_i Xg254_l3), (4, sv_i Xg254_l4)]) (st' := [sv_r a]) rfl ?_
                                      refine sq_ldc C (index := 220) (tx := "till") 22 (by decide) rfl (by decide +kernel) ?_
                                      refine sv_cv C (index := 208) (k := 1) (rest := []) (ci := 10) (r := (RX11, TX11, 47)) (by decide +kernel) (sf_X11_is l g A ty σ255 hok285 hTA Iσ255 a k_a 22 (by decide) (n18) ⟨by omega, by omega⟩ (Xg254_fa_19) ⟨by omega, by omega⟩ (Xg254_fa_20) ⟨by omega, by omega⟩ (Xg254_fa_21) ⟨by omega, by omega⟩ eσ255_0 eσ255_11 eσ255_12 eσ255_13 (by omega) (by omega) (by omega)) ⟨co_X11_is, in_X11, ⟨by decide, by decide, by decide +kernel⟩, Nat.le_of_ble_eq_true rfl, Nat.le_of_ble_eq_true rfl⟩ ml_X11_208 im_X11_is se_X11_is (by rw [k_a]; rfl) rfl rfl rfl (Nat.le_of_ble_eq_true rfl) ⟨Nat.zero_le _, Nat.zero_le _⟩ (fun r291 σ292 hpo290 hok293 => ?_)
                                      obtain ⟨rfl, ⟨vu294, rfl, hvu294, ivu294_0⟩⟩ := hpo290
                                      refine sv_same (st2 := [sv_i vu294]) (lv2 := [(0, sv_r a), (2, sv_i vu17), (3, sv_i Xg254_l3), (4, sv_i Xg254_l4)]) rfl rfl ?_
                                      have J297 : st_E p l e { frames := 6, cells := 0, slots := 0, locals := 129 } s m args below meth c 7 g A ty (fun r σ' => (r = []) ∧ sv_inv sp_1 ty σ' ∧ sv_ofx [(10, 19), (10, 20), (10, 21), (10, 22), (10, 23), (10, 24)] [60, 65, 66, 67, 68, 69, 70, 71, 72, 73, 74] ty σ σ' ∧ ∃ c1 c2 hc : Int, σ' a 19 = c1 ∧ σ' a 20 = c2 ∧ σ' a 21 = hc ∧ (b1 ≤ c1 ∧ c1 ≤ c2 ∧ c2 ≤ n18) ∧ (0 ≤ hc ∧ hc ≤ 4) ∧ (hc = 0 ∨ c1 < c2) ∧ (hc ≠ 1 ∨ c2 ≤ c1 + 12)) (fun x σ' => ty x = 11 ∧ sv_inv sp_1 ty σ' ∧ sv_ofx [(10, 19), (10, 20), (10, 21), (10, 22), (10, 23), (10, 24)] [60, 65, 66, 67, 68, 69, 70, 71, 72, 73, 74] ty σ σ') σ255 515 [(0, sv_r a), (2, sv_i vu17), (3, sv_i Xg254_l3), (4, sv_i Xg254_l4)] [] := by
                                        refine sv_go C.1 C.2.1 [(.aload_n 0, 1)] (pc' := 516) (by decide +kernel) rfl (lv' := [(0, sv_r a), (2, sv_i vu17), (3, sv_i Xg254_l3), (4, sv_i Xg254_l4)]) (st' := [sv_r a]) rfl ?_
                                        refine sq_ldc C (index := 217) (tx := "vigil") 19 (by decide) rfl (by decide +kernel) ?_
                                        refine sv_cv C (index := 208) (k := 1) (rest := []) (ci := 10) (r := (RX11, TX11, 47)) (by decide +kernel) (sf_X11_is l g A ty σ255 hok293 hTA Iσ255 a k_a 19 (by decide) (n18) ⟨by omega, by omega⟩ (Xg254_fa_19) ⟨by omega, by omega⟩ (Xg254_fa_20) ⟨by omega, by omega⟩ (Xg254_fa_21) ⟨by omega, by omega⟩ eσ255_0 eσ255_11 eσ255_12 eσ255_13 (by omega) (by omega) (by omega)) ⟨co_X11_is, in_X11, ⟨by decide, by decide, by decide +kernel⟩, Nat.le_of_ble_eq_true rfl, Nat.le_of_ble_eq_true rfl⟩ ml_X11_208 im_X11_is se_X11_is (by rw [k_a]; rfl) rfl rfl rfl (Nat.le_of_ble_eq_true rfl) ⟨Nat.zero_le _, Nat.zero_le _⟩ (fun r299 σ300 hpo298 hok301 => ?_)
                                        obtain ⟨rfl, ⟨vu302, rfl, hvu302, ivu302_0⟩⟩ := hpo298
                                        refine sv_same (st2 := [sv_i vu302]) (lv2 := [(0, sv_r a), (2, sv_i vu17), (3, sv_i Xg254_l3), (4, sv_i Xg254_l4)]) rfl rfl ?_
                                        refine sv_if C.1 C.2.1 (cnd := .eq) (off := 17) (tgt := 538) (by decide +kernel) (by decide) ⟨by omega, by omega⟩ (fun (h303 : vu302 = 0) => ?_) (fun (h303 : ¬ (vu302 = 0)) => ?_)
                                        · refine sv_go C.1 C.2.1 [(.aload_n 0, 1)] (pc' := 539) (by decide +kernel) rfl (lv' := [(0, sv_r a), (2, sv_i vu17), (3, sv_i Xg254_l3), (4, sv_i Xg254_l4)]) (st' := [sv_r a]) rfl ?_
                                          refine sq_ldc C (index := 218) (tx := "octave") 20 (by decide) rfl (by decide +kernel) ?_
                                          refine sv_cv C (index := 208) (k := 1) (rest := []) (ci := 10) (r := (RX11, TX11, 47)) (by decide +kernel) (sf_X11_is l g A ty σ255 hok301 hTA Iσ255 a k_a 20 (by decide) (n18) ⟨by omega, by omega⟩ (Xg254_fa_19) ⟨by omega, by omega⟩ (Xg254_fa_20) ⟨by omega, by omega⟩ (Xg254_fa_21) ⟨by omega, by omega⟩ eσ255_0 eσ255_11 eσ255_12 eσ255_13 (by omega) (by omega) (by omega)) ⟨co_X11_is, in_X11, ⟨by decide, by decide, by decide +kernel⟩, Nat.le_of_ble_eq_true rfl, Nat.le_of_ble_eq_true rfl⟩ ml_X11_208 im_X11_is se_X11_is (by rw [k_a]; rfl) rfl rfl rfl (Nat.le_of_ble_eq_true rfl) ⟨Nat.zero_le _, Nat.zero_le _⟩ (fun r305 σ306 hpo304 hok307 => ?_)
                                          obtain ⟨rfl, ⟨vu308, rfl, hvu308, ivu308_0⟩⟩ := hpo304
                                          refine sv_same (st2 := [sv_i vu308]) (lv2 := [(0, sv_r a), (2, sv_i vu17), (3, sv_i Xg254_l3), (4, sv_i Xg254_l4)]) rfl rfl ?_
                                          refine sv_if C.1 C.2.1 (cnd := .eq) (off := 17) (tgt := 561) (by decide +kernel) (by decide) ⟨by omega, by omega⟩ (fun (h309 : vu308 = 0) => ?_) (fun (h309 : ¬ (vu308 = 0)) => ?_)
                                          · refine sv_go C.1 C.2.1 [(.aload_n 0, 1)] (pc' := 562) (by decide +kernel) rfl (lv' := [(0, sv_r a), (2, sv_i vu17), (3, sv_i Xg254_l3), (4, sv_i Xg254_l4)]) (st' := [sv_r a]) rfl ?_
                                            refine sq_ldc C (index := 219) (tx := "from") 21 (by decide) rfl (by decide +kernel) ?_
                                            refine sv_cv C (index := 208) (k := 1) (rest := []) (ci := 10) (r := (RX11, TX11, 47)) (by decide +kernel) (sf_X11_is l g A ty σ255 hok307 hTA Iσ255 a k_a 21 (by decide) (n18) ⟨by omega, by omega⟩ (Xg254_fa_19) ⟨by omega, by omega⟩ (Xg254_fa_20) ⟨by omega, by omega⟩ (Xg254_fa_21) ⟨by omega, by omega⟩ eσ255_0 eσ255_11 eσ255_12 eσ255_13 (by omega) (by omega) (by omega)) ⟨co_X11_is, in_X11, ⟨by decide, by decide, by decide +kernel⟩, Nat.le_of_ble_eq_true rfl, Nat.le_of_ble_eq_true rfl⟩ ml_X11_208 im_X11_is se_X11_is (by rw [k_a]; rfl) rfl rfl rfl (Nat.le_of_ble_eq_true rfl) ⟨Nat.zero_le _, Nat.zero_le _⟩ (fun r311 σ312 hpo310 hok313 => ?_)
                                            obtain ⟨rfl, ⟨vu314, rfl, hvu314, ivu314_0⟩⟩ := hpo310
                                            refine sv_same (st2 := [sv_i vu314]) (lv2 := [(0, sv_r a), (2, sv_i vu17), (3, sv_i Xg254_l3), (4, sv_i Xg254_l4)]) rfl rfl ?_
                                            refine sv_go C.1 C.2.1 [(.istore 5, 2), (.aload_n 0, 1)] (pc' := 570) (by decide +kernel) rfl (lv' := [(0, sv_r a), (2, sv_i vu17), (3, sv_i Xg254_l3), (4, sv_i Xg254_l4), (5, sv_i vu314)]) (st' := [sv_r a]) rfl ?_
                                            refine sv_cv C (index := 229) (k := 0) (rest := []) (ci := 10) (r := (RX11, TX11, 47)) (by decide +kernel) (sf_X11_scan l g A ty σ255 hok313 hTA Iσ255 a k_a (n18) ⟨by omega, by omega⟩ (Xg254_fa_20) ⟨by omega, by omega⟩ eσ255_0 eσ255_12 (by omega)) ⟨co_X11_scan, in_X11, ⟨by decide, by decide, by decide +kernel⟩, Nat.le_of_ble_eq_true rfl, Nat.le_of_ble_eq_true rfl⟩ ml_X11_229 im_X11_scan se_X11_scan (by rw [k_a]; rfl) rfl rfl rfl (Nat.le_of_ble_eq_true rfl) ⟨Nat.zero_le _, Nat.zero_le _⟩ (fun r316 σ317 hpo315 hok318 => ?_)
                                            obtain ⟨rfl, hIu319, hFu319, xu319⟩ := hpo315
                                            have hGu319 := Fσ255.tr hFu319 (by decide) (by decide)
                                            have t320 : σ317 a 18 = n18 := (hFu319.at k_a (by decide) (by decide)).trans eσ255_0
                                            have t321 : σ317 a 0 = (v10 : Int) + 1 := (hFu319.at k_a (by decide) (by decide)).trans eσ255_1
                                            have t322 : σ317 v10 (4 : Int).toNat = v11 := (hFu319.atA kv10 (by decide) (by decide)).trans eσ255_2
                                            have t323 : σ317 a 5 = (v18 : Int) + 1 := (hFu319.at k_a (by decide) (by decide)).trans eσ255_3
                                            have t324 : σ317 v18 (vu17 : Int).toNat = Jg7_s0 := (hFu319.atA kv18 (by decide) (by decide)).trans eσ255_4
                                            have t325 : σ317 a 6 = (Jg42_fa_6 : Int) + 1 := (hFu319.at k_a (by decide) (by decide)).trans eσ255_5
                                            have t326 : σ317 a 7 = (Jg42_fa_7 : Int) + 1 := (hFu319.at k_a (by decide) (by decide)).trans eσ255_6
                                            have t327 : σ317 a 8 = (v58 : Int) + 1 := (hFu319.at k_a (by decide) (by decide)).trans eσ255_7
                                            have t328 : σ317 v58 (vu17 : Int).toNat = vu64 := (hFu319.atA kv58 (by decide) (by decide)).trans eσ255_8
                                            have t329 : σ317 a 11 = (v114 : Int) + 1 := (hFu319.at k_a (by decide) (by decide)).trans eσ255_9
                                            have t330 : σ317 v114 (vu17 : Int).toNat = c2u64 - c1u64 := (hFu319.atA kv114 (by decide) (by decide)).trans eσ255_10
                                            have t331 : σ317 a 12 = (v158 : Int) + 1 := (hFu319.at k_a (by decide) (by decide)).trans eσ255_14
                                            have t332 : σ317 v158 (vu17 : Int).toNat = Xg254_e15 := (hFu319.atA kv158 (by decide) (by decide)).trans eσ255_15
                                            have t333 : σ317 a 13 = (v179 : Int) + 1 := (hFu319.at k_a (by decide) (by decide)).trans eσ255_16
                                            have t334 : σ317 v179 (vu17 : Int).toNat = Xg254_e17 := (hFu319.atA kv179 (by decide) (by decide)).trans eσ255_17
                                            have t335 : σ317 a 9 = (v202 : Int) + 1 := (hFu319.at k_a (by decide) (by decide)).trans eσ255_18
                                            have t336 : σ317 v202 (vu17 : Int).toNat = Xg254_e19 := (hFu319.atA kv202 (by decide) (by decide)).trans eσ255_19
                                            have t337 : σ317 a 10 = (v227 : Int) + 1 := (hFu319.at k_a (by decide) (by decide)).trans eσ255_20
                                            have t338 : σ317 v227 (vu17 : Int).toNat = Xg254_e21 := (hFu319.atA kv227 (by decide) (by decide)).trans eσ255_21
                                            obtain ⟨c1u319, c2u319, chu319, e19u319, e20u319, e21u319, j1u319, j2u319, j3u319, j4u319⟩ := xu319
                                            refine sv_same (st2 := []) (lv2 := [(0, sv_r a), (2, sv_i vu17), (3, sv_i Xg254_l3), (4, sv_i Xg254_l4), (5, sv_i vu314)]) rfl rfl ?_
                                            refine sv_go C.1 C.2.1 [(.aload_n 0, 1), (.iconst 1, 1), (.sipush 2000, 3)] (pc' := 578) (by decide +kernel) rfl (lv' := [(0, sv_r a), (2, sv_i vu17), (3, sv_i Xg254_l3), (4, sv_i Xg254_l4), (5, sv_i vu314)]) (st' := [sv_i 2000, sv_i 1, sv_r a]) rfl ?_
                                            refine st_cv C (index := 232) (k := 2) (rest := []) (ci := 10) (r := (RX11, TX11, 47)) (by decide +kernel) (sf_X11_number l g A ty σ317 hok318 hTA hIu319 a k_a (1) ⟨by omega, by omega⟩ (2000) ⟨by omega, by omega⟩ (n18) ⟨by omega, by omega⟩ (c1u319) ⟨by omega, by omega⟩ (c2u319) ⟨by omega, by omega⟩ (chu319) ⟨by omega, by omega⟩ t320 e19u319 e20u319 e21u319 (by omega) (by omega) (by omega)) ⟨co_X11_number, in_X11, ⟨by decide, by decide, by decide +kernel⟩, Nat.le_of_ble_eq_true rfl, Nat.le_of_ble_eq_true rfl⟩ ml_X11_232 im_X11_number se_X11_number (by rw [k_a]; rfl) rfl rfl rfl (Nat.le_of_ble_eq_true rfl) ⟨Nat.zero_le _, Nat.zero_le _⟩ (fun r340 σ341 hpo339 hok342 => ?_) (fun xt343 σ341 hpo339 hok342 => st_out C hE hok342 ⟨hpo339.1, hpo339.2.1, hGu319.tr hpo339.2.2 (by decide) (by decide)⟩)
                                            obtain ⟨⟨vu344, rfl, hvu344, ivu344_0⟩, hIu344, hFu344⟩ := hpo339
                                            have hGu344 := hGu319.tr hFu344 (by decide) (by decide)
                                            have t345 : σ341 a 18 = n18 := (hFu344.at k_a (by decide) (by decide)).trans t320
                                            have t346 : σ341 a 0 = (v10 : Int) + 1 := (hFu344.at k_a (by decide) (by decide)).trans t321
                                            have t347 : σ341 v10 (4 : Int).toNat = v11 := (hFu344.atA kv10 (by decide) (by decide)).trans t322
                                            have t348 : σ341 a 5 = (v18 : Int) + 1 := (hFu344.at k_a (by decide) (by decide)).trans t323
                                            have t349 : σ341 v18 (vu17 : Int).toNat = Jg7_s0 := (hFu344.atA kv18 (by decide) (by decide)).trans t324
                                            have t350 : σ341 a 6 = (Jg42_fa_6 : Int) + 1 := (hFu344.at k_a (by decide) (by decide)).trans t325
                                            have t351 : σ341 a 7 = (Jg42_fa_7 : Int) + 1 := (hFu344.at k_a (by decide) (by decide)).trans t326
                                            have t352 : σ341 a 8 = (v58 : Int) + 1 := (hFu344.at k_a (by decide) (by decide)).trans t327
                                            have t353 : σ341 v58 (vu17 : Int).toNat = vu64 := (hFu344.atA kv58 (by decide) (by decide)).trans t328
                                            have t354 : σ341 a 11 = (v114 : Int) + 1 := (hFu344.at k_a (by decide) (by decide)).trans t329
                                            have t355 : σ341 v114 (vu17 : Int).toNat = c2u64 - c1u64 := (hFu344.atA kv114 (by decide) (by decide)).trans t330
                                            have t356 : σ341 a 12 = (v158 : Int) + 1 := (hFu344.at k_a (by decide) (by decide)).trans t331
                                            have t357 : σ341 v158 (vu17 : Int).toNat = Xg254_e15 := (hFu344.atA kv158 (by decide) (by decide)).trans t332
                                            have t358 : σ341 a 13 = (v179 : Int) + 1 := (hFu344.at k_a (by decide) (by decide)).trans t333
                                            have t359 : σ341 v179 (vu17 : Int).toNat = Xg254_e17 := (hFu344.atA kv179 (by decide) (by decide)).trans t334
                                            have t360 : σ341 a 9 = (v202 : Int) + 1 := (hFu344.at k_a (by decide) (by decide)).trans t335
                                            have t361 : σ341 v202 (vu17 : Int).toNat = Xg254_e19 := (hFu344.atA kv202 (by decide) (by decide)).trans t336
                                            have t362 : σ341 a 10 = (v227 : Int) + 1 := (hFu344.at k_a (by decide) (by decide)).trans t337
                                            have t363 : σ341 v227 (vu17 : Int).toNat = Xg254_e21 := (hFu344.atA kv227 (by decide) (by decide)).trans t338
                                            have t364 : σ341 a 19 = c1u319 := (hFu344.at k_a (by decide) (by decide)).trans e19u319
                                            have t365 : σ341 a 20 = c2u319 := (hFu344.at k_a (by decide) (by decide)).trans e20u319
                                            have t366 : σ341 a 21 = chu319 := (hFu344.at k_a (by decide) (by decide)).trans e21u319
                                            have hp367 := ivu344_0 (by omega) (by omega)
                                            refine sv_same (st2 := [sv_i vu344]) (lv2 := [(0, sv_r a), (2, sv_i vu17), (3, sv_i Xg254_l3), (4, sv_i Xg254_l4), (5, sv_i vu314)]) rfl rfl ?_
                                            refine sv_go C.1 C.2.1 [(.istore 6, 2), (.iload 5, 2)] (pc' := 585) (by decide +kernel) rfl (lv' := [(0, sv_r a), (2, sv_i vu17), (3, sv_i Xg254_l3), (4, sv_i Xg254_l4), (5, sv_i vu314), (6, sv_i vu344)]) (st' := [sv_i vu314]) rfl ?_
                                            have J371 : ∀ (Jg369_l3 : Int) (Jg369_l4 : Int) (Jg369_e16 : Int) (Jg369_e21 : Int) (σ370 : Nat → Nat → Int), (0 ≤ Jg369_l3 ∧ Jg369_l3 ≤ 1) → (0 ≤ Jg369_l4 ∧ Jg369_l4 ≤ 1) → (1 ≤ Jg369_e16 ∧ Jg369_e16 ≤ 2000) → (1 ≤ Jg369_e21 ∧ Jg369_e21 ≤ 2000) → (sv_ok ty σ370) → (sv_inv sp_1 ty σ370) → (sv_ofx [(10, 19), (10, 20), (10, 21), (10, 22), (10, 23), (10, 24)] [60, 65, 66, 67, 68, 69, 70, 71, 72, 73, 74] ty σ σ370) → (σ370 a 18 = n18) → (σ370 a 0 = (v10 : Int) + 1) → (σ370 v10 (4 : Int).toNat = v11) → (σ370 a 5 = (v18 : Int) + 1) → (σ370 v18 (vu17 : Int).toNat = Jg7_s0) → (σ370 a 6 = (Jg42_fa_6 : Int) + 1) → (σ370 a 7 = (Jg42_fa_7 : Int) + 1) → (σ370 a 8 = (v58 : Int) + 1) → (σ370 v58 (vu17 : Int).toNat = vu64) → (σ370 a 11 = (v114 : Int) + 1) → (σ370 v114 (vu17 : Int).toNat = c2u64 - c1u64) → (σ370 a 12 = (v158 : Int) + 1) → (σ370 v158 (vu17 : Int).toNat = Xg254_e15) → (σ370 a 13 = (v179 : Int) + 1) → (σ370 v179 (vu17 : Int).toNat = Xg254_e17) → (σ370 a 9 = (v202 : Int) + 1) → (σ370 v202 (vu17 : Int).toNat = Jg369_e16) → (σ370 a 10 = (v227 : Int) + 1) → (σ370 a 19 = c1u319) → (σ370 a 20 = c2u319) → (σ370 a 21 = chu319) → (σ370 v227 (vu17 : Int).toNat = Jg369_e21) → (b1 ≤ c1u319 ∧ c1u319 ≤ c2u319 ∧ c2u319 ≤ n18 ∧ (chu319 = 0 ∨ c1u319 < c2u319) ∧ (chu319 ≠ 1 ∨ c2u319 ≤ c1u319 + 12)) → st_E p l e { frames := 6, cells := 0, slots := 0, locals := 129 } s m args below meth c 7 g A ty (fun r σ' => (r = []) ∧ sv_inv sp_1 ty σ' ∧ sv_ofx [(10, 19), (10, 20), (10, 21), (10, 22), (10, 23), (10, 24)] [60, 65, 66, 67, 68, 69, 70, 71, 72, 73, 74] ty σ σ' ∧ ∃ c1 c2 hc : Int, σ' a 19 = c1 ∧ σ' a 20 = c2 ∧ σ' a 21 = hc ∧ (b1 ≤ c1 ∧ c1 ≤ c2 ∧ c2 ≤ n18) ∧ (0 ≤ hc ∧ hc ≤ 4) ∧ (hc = 0 ∨ c1 < c2) ∧ (hc ≠ 1 ∨ c2 ≤ c1 + 12)) (fun x σ' => ty x = 11 ∧ sv_inv sp_1 ty σ' ∧ sv_ofx [(10, 19), (10, 20), (10, 21), (10, 22), (10, 23), (10, 24)] [60, 65, 66, 67, 68, 69, 70, 71, 72, 73, 74] ty σ σ') σ370 612 [(0, sv_r a), (2, sv_i vu17), (3, sv_i Jg369_l3), (4, sv_i Jg369_l4)] [] := by
                                              intro Jg369_l3 Jg369_l4 Jg369_e16 Jg369_e21 σ370 hJg369_l3 hJg369_l4 hJg369_e16 hJg369_e21 okσ370 Iσ370 Fσ370 eσ370_0 eσ370_1 eσ370_2 eσ370_3 eσ370_4 eσ370_5 eσ370_6 eσ370_7 eσ370_8 eσ370_9 eσ370_10 eσ370_11 eσ370_12 eσ370_13 eσ370_14 eσ370_15 eσ370_16 eσ370_17 eσ370_18 eσ370_19 eσ370_20 eσ370_21 zj612
                                              refine sv_go C.1 C.2.1 [(.aload_n 0, 1)] (pc' := 613) (by decide +kernel) rfl (lv' := [(0, sv_r a), (2, sv_i vu17), (3, sv_i Jg369_l3), (4, sv_i Jg369_l4)]) (st' := [sv_r a]) rfl ?_
                                              refine sv_gf C (index := 75) (ci := 10) (k := 9) (r := (RX11, TX11, 47)) (v := sv_r v202) (by decide +kernel) (by rw [k_a]; rfl) rfl (by decide) fl_X11_75 (congrArg sv_a eσ370_15) ?_
                                              refine sv_go C.1 C.2.1 [(.iload_n 2, 1)] (pc' := 617) (by decide +kernel) rfl (lv' := [(0, sv_r a), (2, sv_i vu17), (3, sv_i Jg369_l3), (4, sv_i Jg369_l4)]) (st' := [sv_i vu17, sv_r v202]) rfl ?_
                                              refine sv_ia C (n := 300) (by decide +kernel) (by rw [kv202]; rfl) (by decide) (by omega) (by omega) ?_
                                              rw [eσ370_16]
                                              refine sv_go C.1 C.2.1 [(.aload_n 0, 1)] (pc' := 619) (by decide +kernel) rfl (lv' := [(0, sv_r a), (2, sv_i vu17), (3, sv_i Jg369_l3), (4, sv_i Jg369_l4)]) (st' := [sv_r a, sv_i Jg369_e16]) rfl ?_
                                              refine sv_gf C (index := 78) (ci := 10) (k := 10) (r := (RX11, TX11, 47)) (v := sv_r v227) (by decide +kernel) (by rw [k_a]; rfl) rfl (by decide) fl_X11_78 (congrArg sv_a eσ370_17) ?_
                                              refine sv_go C.1 C.2.1 [(.iload_n 2, 1)] (pc' := 623) (by decide +kernel) rfl (lv' := [(0, sv_r a), (2, sv_i vu17), (3, sv_i Jg369_l3), (4, sv_i Jg369_l4)]) (st' := [sv_i vu17, sv_r v227, sv_i Jg369_e16]) rfl ?_
                                              refine sv_ia C (n := 300) (by decide +kernel) (by rw [kv227]; rfl) (by decide) (by omega) (by omega) ?_
                                              rw [eσ370_21]
                                              refine sv_icmp C.1 C.2.1 (cnd := .le) (off := 9) (tgt := 633) (by decide +kernel) (by decide) ⟨by omega, by omega⟩ ⟨by omega, by omega⟩ (fun (h372 : Jg369_e16 ≤ Jg369_e21) => ?_) (fun (h372 : ¬ (Jg369_e16 ≤ Jg369_e21)) => ?_)
                                              · refine sv_go C.1 C.2.1 [(.aload_n 0, 1)] (pc' := 634) (by decide +kernel) rfl (lv' := [(0, sv_r a), (2, sv_i vu17), (3, sv_i Jg369_l3), (4, sv_i Jg369_l4)]) (st' := [sv_r a]) rfl ?_
                                                refine sv_cv C (index := 229) (k := 0) (rest := []) (ci := 10) (r := (RX11, TX11, 47)) (by decide +kernel) (sf_X11_scan l g A ty σ370 okσ370 hTA Iσ370 a k_a (n18) ⟨by omega, by omega⟩ (c2u319) ⟨by omega, by omega⟩ eσ370_0 eσ370_19 (by omega)) ⟨co_X11_scan, in_X11, ⟨by decide, by decide, by decide +kernel⟩, Nat.le_of_ble_eq_true rfl, Nat.le_of_ble_eq_true rfl⟩ ml_X11_229 im_X11_scan se_X11_scan (by rw [k_a]; rfl) rfl rfl rfl (Nat.le_of_ble_eq_true rfl) ⟨Nat.zero_le _, Nat.zero_le _⟩ (fun r374 σ375 hpo373 hok376 => ?_)
                                                obtain ⟨rfl, hIu377, hFu377, xu377⟩ := hpo373
                                                have hGu377 := Fσ370.tr hFu377 (by decide) (by decide)
                                                have t378 : σ375 a 18 = n18 := (hFu377.at k_a (by decide) (by decide)).trans eσ370_0
                                                have t379 : σ375 a 0 = (v10 : Int) + 1 := (hFu377.at k_a (by decide) (by decide)).trans eσ370_1
                                                have t380 : σ375 v10 (4 : Int).toNat = v11 := (hFu377.atA kv10 (by decide) (by decide)).trans eσ370_2
                                                have t381 : σ375 a 5 = (v18 : Int) + 1 := (hFu377.at k_a (by decide) (by decide)).trans eσ370_3
                                                have t382 : σ375 v18 (vu17 : Int).toNat = Jg7_s0 := (hFu377.atA kv18 (by decide) (by decide)).trans eσ370_4
                                                have t383 : σ375 a 6 = (Jg42_fa_6 : Int) + 1 := (hFu377.at k_a (by decide) (by decide)).trans eσ370_5
                                                have t384 : σ375 a 7 = (Jg42_fa_7 : Int) + 1 := (hFu377.at k_a (by decide) (by decide)).trans eσ370_6
                                                have t385 : σ375 a 8 = (v58 : Int) + 1 := (hFu377.at k_a (by decide) (by decide)).trans eσ370_7
                                                have t386 : σ375 v58 (vu17 : Int).toNat = vu64 := (hFu377.atA kv58 (by decide) (by decide)).trans eσ370_8
                                                have t387 : σ375 a 11 = (v114 : Int) + 1 := (hFu377.at k_a (by decide) (by decide)).trans eσ370_9
                                                have t388 : σ375 v114 (vu17 : Int).toNat = c2u64 - c1u64 := (hFu377.atA kv114 (by decide) (by decide)).trans eσ370_10
                                                have t389 : σ375 a 12 = (v158 : Int) + 1 := (hFu377.at k_a (by decide) (by decide)).trans eσ370_11
                                                have t390 : σ375 v158 (vu17 : Int).toNat = Xg254_e15 := (hFu377.atA kv158 (by decide) (by decide)).trans eσ370_12
                                                have t391 : σ375 a 13 = (v179 : Int) + 1 := (hFu377.at k_a (by decide) (by decide)).trans eσ370_13
                                                have t392 : σ375 v179 (vu17 : Int).toNat = Xg254_e17 := (hFu377.atA kv179 (by decide) (by decide)).trans eσ370_14
                                                have t393 : σ375 a 9 = (v202 : Int) + 1 := (hFu377.at k_a (by decide) (by decide)).trans eσ370_15
                                                have t394 : σ375 v202 (vu17 : Int).toNat = Jg369_e16 := (hFu377.atA kv202 (by decide) (by decide)).trans eσ370_16
                                                have t395 : σ375 a 10 = (v227 : Int) + 1 := (hFu377.at k_a (by decide) (by decide)).trans eσ370_17
                                                have t396 : σ375 v227 (vu17 : Int).toNat = Jg369_e21 := (hFu377.atA kv227 (by decide) (by decide)).trans eσ370_21
                                                obtain ⟨c1u377, c2u377, chu377, e19u377, e20u377, e21u377, j1u377, j2u377, j3u377, j4u377⟩ := xu377
                                                refine sv_same (st2 := []) (lv2 := [(0, sv_r a), (2, sv_i vu17), (3, sv_i Jg369_l3), (4, sv_i Jg369_l4)]) rfl rfl ?_
                                                refine sv_goto C.1 C.2.1 (off := (-227)) (tgt := 410) (by decide +kernel) (by decide) ?_
                                                exact ih257 Jg369_l3 Jg369_l4 c1u377 c2u377 chu377 Xg254_e15 Xg254_e17 Jg369_e16 Jg369_e21 σ375 ⟨by omega, by omega⟩ ⟨by omega, by omega⟩ ⟨by omega, by omega⟩ ⟨by omega, by omega⟩ ⟨by omega, by omega⟩ ⟨by omega, by omega⟩ ⟨by omega, by omega⟩ ⟨by omega, by omega⟩ ⟨by omega, by omega⟩ hok376 hIu377 hGu377 t378 t379 t380 t381 t382 t383 t384 t385 t386 t387 t388 e19u377 e20u377 e21u377 t389 t390 t391 t392 t393 t394 t395 t396 (by omega) (by omega)
                                              · refine sv_go C.1 C.2.1 [(.aload_n 0, 1), (.iconst 5, 1)] (pc' := 629) (by decide +kernel) rfl (lv' := [(0, sv_r a), (2, sv_i vu17), (3, sv_i Jg369_l3), (4, sv_i Jg369_l4)]) (st' := [sv_i 5, sv_r a]) rfl ?_
                                                refine sv_cv C (index := 225) (k := 1) (rest := []) (ci := 10) (r := (RX11, TX11, 47)) (by decide +kernel) (sf_X11_wrong l g A ty σ370 okσ370 hTA Iσ370 a k_a (5) ⟨by omega, by omega⟩) ⟨co_X11_wrong, in_X11, ⟨by decide, by decide, by decide +kernel⟩, Nat.le_of_ble_eq_true rfl, Nat.le_of_ble_eq_true rfl⟩ ml_X11_225 im_X11_wrong se_X11_wrong (by rw [k_a]; rfl) rfl rfl rfl (Nat.le_of_ble_eq_true rfl) ⟨Nat.zero_le _, Nat.zero_le _⟩ (fun r398 σ399 hpo397 hok400 => ?_)
                                                obtain ⟨⟨qu401, rfl, kqu401⟩, hIu401, hFu401⟩ := hpo397
                                                have hGu401 := Fσ370.tr hFu401 (by decide) (by decide)
                                                have t402 : σ399 a 18 = n18 := (hFu401.at k_a (by decide) (by decide)).trans eσ370_0
                                                have t403 : σ399 a 0 = (v10 : Int) + 1 := (hFu401.at k_a (by decide) (by decide)).trans eσ370_1
                                                have t404 : σ399 v10 (4 : Int).toNat = v11 := (hFu401.atA kv10 (by decide) (by decide)).trans eσ370_2
                                                have t405 : σ399 a 5 = (v18 : Int) + 1 := (hFu401.at k_a (by decide) (by decide)).trans eσ370_3
                                                have t406 : σ399 v18 (vu17 : Int).toNat = Jg7_s0 := (hFu401.atA kv18 (by decide) (by decide)).trans eσ370_4
                                                have t407 : σ399 a 6 = (Jg42_fa_6 : Int) + 1 := (hFu401.at k_a (by decide) (by decide)).trans eσ370_5
                                                have t408 : σ399 a 7 = (Jg42_fa_7 : Int) + 1 := (hFu401.at k_a (by decide) (by decide)).trans eσ370_6
                                                have t409 : σ399 a 8 = (v58 : Int) + 1 := (hFu401.at k_a (by decide) (by decide)).trans eσ370_7
                                                have t410 : σ399 v58 (vu17 : Int).toNat = vu64 := (hFu401.atA kv58 (by decide) (by decide)).trans eσ370_8
                                                have t411 : σ399 a 11 = (v114 : Int) + 1 := (hFu401.at k_a (by decide) (by decide)).trans eσ370_9
                                                have t412 : σ399 v114 (vu17 : Int).toNat = c2u64 - c1u64 := (hFu401.atA kv114 (by decide) (by decide)).trans eσ370_10
                                                have t413 : σ399 a 12 = (v158 : Int) + 1 := (hFu401.at k_a (by decide) (by decide)).trans eσ370_11
                                                have t414 : σ399 v158 (vu17 : Int).toNat = Xg254_e15 := (hFu401.atA kv158 (by decide) (by decide)).trans eσ370_12
                                                have t415 : σ399 a 13 = (v179 : Int) + 1 := (hFu401.at k_a (by decide) (by decide)).trans eσ370_13
                                                have t416 : σ399 v179 (vu17 : Int).toNat = Xg254_e17 := (hFu401.atA kv179 (by decide) (by decide)).trans eσ370_14
                                                have t417 : σ399 a 9 = (v202 : Int) + 1 := (hFu401.at k_a (by decide) (by decide)).trans eσ370_15
                                                have t418 : σ399 v202 (vu17 : Int).toNat = Jg369_e16 := (hFu401.atA kv202 (by decide) (by decide)).trans eσ370_16
                                                have t419 : σ399 a 10 = (v227 : Int) + 1 := (hFu401.at k_a (by decide) (by decide)).trans eσ370_17
                                                have t420 : σ399 a 19 = c1u319 := (hFu401.at k_a (by decide) (by decide)).trans eσ370_18
                                                have t421 : σ399 a 20 = c2u319 := (hFu401.at k_a (by decide) (by decide)).trans eσ370_19
                                                have t422 : σ399 a 21 = chu319 := (hFu401.at k_a (by decide) (by decide)).trans eσ370_20
                                                have t423 : σ399 v227 (vu17 : Int).toNat = Jg369_e21 := (hFu401.atA kv227 (by decide) (by decide)).trans eσ370_21
                                                refine sv_same (st2 := [sv_r qu401]) (lv2 := [(0, sv_r a), (2, sv_i vu17), (3, sv_i Jg369_l3), (4, sv_i Jg369_l4)]) rfl rfl ?_
                                                exact st_throw C hE (by decide +kernel) hok400 ⟨kqu401, hIu401, hGu401⟩
                                            refine sv_if C.1 C.2.1 (cnd := .eq) (off := 16) (tgt := 601) (by decide +kernel) (by decide) ⟨by omega, by omega⟩ (fun (h368 : vu314 = 0) => ?_) (fun (h368 : ¬ (vu314 = 0)) => ?_)
                                            · refine sv_go C.1 C.2.1 [(.aload_n 0, 1)] (pc' := 602) (by decide +kernel) rfl (lv' := [(0, sv_r a), (2, sv_i vu17), (3, sv_i Xg254_l3), (4, sv_i Xg254_l4), (5, sv_i vu314), (6, sv_i vu344)]) (st' := [sv_r a]) rfl ?_
                                              refine sv_gf C (index := 78) (ci := 10) (k := 10) (r := (RX11, TX11, 47)) (v := sv_r v227) (by decide +kernel) (by rw [k_a]; rfl) rfl (by decide) fl_X11_78 (congrArg sv_a t362) ?_
                                              refine sv_go C.1 C.2.1 [(.iload_n 2, 1), (.iload 6, 2)] (pc' := 608) (by decide +kernel) rfl (lv' := [(0, sv_r a), (2, sv_i vu17), (3, sv_i Xg254_l3), (4, sv_i Xg254_l4), (5, sv_i vu314), (6, sv_i vu344)]) (st' := [sv_i vu344, sv_i vu17, sv_r v227]) rfl ?_
                                              refine sv_is C (n := 300) (by decide +kernel) (by rw [kv227]; rfl) (by decide) (by omega) (by omega) ⟨by omega, by omega⟩ (hTA _ (by rw [kv227]; decide)) hok342 (fun hok424 => ?_)
                                              have hI426 := hIu344.up (a := v227) (k := (vu17 : Int).toNat) (z := vu344) (by rw [kv227]; exact trivial)
                                              have hF427 := hGu344.up (a := v227) (k := (vu17 : Int).toNat) (z := vu344) (Or.inl (by rw [kv227]; decide))
                                              generalize eσ425 : sv_up σ341 v227 (vu17 : Int).toNat vu344 = σ425 at hok424 hI426 hF427 ⊢
                                              have t428 : σ425 a 18 = n18 := by rw [← eσ425, sv_up_a (sv_ne k_a kv227 (by decide))]; exact t345
                                              have t429 : σ425 a 0 = (v10 : Int) + 1 := by rw [← eσ425, sv_up_a (sv_ne k_a kv227 (by decide))]; exact t346
                                              have t430 : σ425 v10 (4 : Int).toNat = v11 := by rw [← eσ425, sv_up_a (sv_ne kv10 kv227 (by decide))]; exact t347
                                              have t431 : σ425 a 5 = (v18 : Int) + 1 := by rw [← eσ425, sv_up_a (sv_ne k_a kv227 (by decide))]; exact t348
                                              have t432 : σ425 v18 (vu17 : Int).toNat = Jg7_s0 := by rw [← eσ425, sv_up_a (sv_ne kv18 kv227 (by decide))]; exact t349
                                              have t433 : σ425 a 6 = (Jg42_fa_6 : Int) + 1 := by rw [← eσ425, sv_up_a (sv_ne k_a kv227 (by decide))]; exact t350
                                              have t434 : σ425 a 7 = (Jg42_fa_7 : Int) + 1 := by rw [← eσ425, sv_up_a (sv_ne k_a kv227 (by decide))]; exact t351
                                              have t435 : σ425 a 8 = (v58 : Int) + 1 := by rw [← eσ425, sv_up_a (sv_ne k_a kv227 (by decide))]; exact t352
                                              have t436 : σ425 v58 (vu17 : Int).toNat = vu64 := by rw [← eσ425, sv_up_a (sv_ne kv58 kv227 (by decide))]; exact t353
                                              have t437 : σ425 a 11 = (v114 : Int) + 1 := by rw [← eσ425, sv_up_a (sv_ne k_a kv227 (by decide))]; exact t354
                                              have t438 : σ425 v114 (vu17 : Int).toNat = c2u64 - c1u64 := by rw [← eσ425, sv_up_a (sv_ne kv114 kv227 (by decide))]; exact t355
                                              have t439 : σ425 a 12 = (v158 : Int) + 1 := by rw [← eσ425, sv_up_a (sv_ne k_a kv227 (by decide))]; exact t356
                                              have t440 : σ425 v158 (vu17 : Int).toNat = Xg254_e15 := by rw [← eσ425, sv_up_a (sv_ne kv158 kv227 (by decide))]; exact t357
                                              have t441 : σ425 a 13 = (v179 : Int) + 1 := by rw [← eσ425, sv_up_a (sv_ne k_a kv227 (by decide))]; exact t358
                                              have t442 : σ425 v179 (vu17 : Int).toNat = Xg254_e17 := by rw [← eσ425, sv_up_a (sv_ne kv179 kv227 (by decide))]; exact t359
                                              have t443 : σ425 a 9 = (v202 : Int) + 1 := by rw [← eσ425, sv_up_a (sv_ne k_a kv227 (by decide))]; exact t360
                                              have t444 : σ425 v202 (vu17 : Int).toNat = Xg254_e19 := by rw [← eσ425, sv_up_a (sv_ne kv202 kv227 (by decide))]; exact t361
                                              have t445 : σ425 a 10 = (v227 : Int) + 1 := by rw [← eσ425, sv_up_a (sv_ne k_a kv227 (by decide))]; exact t362
                                              have t447 : σ425 a 19 = c1u319 := by rw [← eσ425, sv_up_a (sv_ne k_a kv227 (by decide))]; exact t364
                                              have t448 : σ425 a 20 = c2u319 := by rw [← eσ425, sv_up_a (sv_ne k_a kv227 (by decide))]; exact t365
                                              have t449 : σ425 a 21 = chu319 := by rw [← eσ425, sv_up_a (sv_ne k_a kv227 (by decide))]; exact t366
                                              have t450 : σ425 v227 (vu17 : Int).toNat = vu344 := by rw [← eσ425]; exact sv_up_s _ _ _ _
                                              refine sv_go C.1 C.2.1 [(.iconst 1, 1), (.istore 4, 2)] (pc' := 612) (by decide +kernel) rfl (lv' := [(0, sv_r a), (2, sv_i vu17), (3, sv_i Xg254_l3), (4, sv_i 1), (5, sv_i vu314), (6, sv_i vu344)]) (st' := []) rfl ?_
                                              refine sv_pick [0, 1, 2, 3] (lv2 := [(0, sv_r a), (2, sv_i vu17), (3, sv_i Xg254_l3), (4, sv_i 1)]) rfl ?_
                                              exact J371 Xg254_l3 1 Xg254_e19 vu344 σ425 ⟨by omega, by omega⟩ ⟨by omega, by omega⟩ ⟨by omega, by omega⟩ ⟨by omega, by omega⟩ hok424 hI426 hF427 t428 t429 t430 t431 t432 t433 t434 t435 t436 t437 t438 t439 t440 t441 t442 t443 t444 t445 t447 t448 t449 t450 (by omega)
                                            · have hp451 := ivu314_0 (by omega) (by omega)
                                              refine sv_go C.1 C.2.1 [(.aload_n 0, 1)] (pc' := 589) (by decide +kernel) rfl (lv' := [(0, sv_r a), (2, sv_i vu17), (3, sv_i Xg254_l3), (4, sv_i Xg254_l4), (5, sv_i vu314), (6, sv_i vu344)]) (st' := [sv_r a]) rfl ?_
                                              refine sv_gf C (index := 75) (ci := 10) (k := 9) (r := (RX11, TX11, 47)) (v := sv_r v202) (by decide +kernel) (by rw [k_a]; rfl) rfl (by decide) fl_X11_75 (congrArg sv_a t360) ?_
                                              refine sv_go C.1 C.2.1 [(.iload_n 2, 1), (.iload 6, 2)] (pc' := 595) (by decide +kernel) rfl (lv' := [(0, sv_r a), (2, sv_i vu17), (3, sv_i Xg254_l3), (4, sv_i Xg254_l4), (5, sv_i vu314), (6, sv_i vu344)]) (st' := [sv_i vu344, sv_i vu17, sv_r v202]) rfl ?_
                                              refine sv_is C (n := 300) (by decide +kernel) (by rw [kv202]; rfl) (by decide) (by omega) (by omega) ⟨by omega, by omega⟩ (hTA _ (by rw [kv202]; decide)) hok342 (fun hok452 => ?_)
                                              have hI454 := hIu344.up (a := v202) (k := (vu17 : Int).toNat) (z := vu344) (by rw [kv202]; exact trivial)
                                              have hF455 := hGu344.up (a := v202) (k := (vu17 : Int).toNat) (z := vu344) (Or.inl (by rw [kv202]; decide))
                                              generalize eσ453 : sv_up σ341 v202 (vu17 : Int).toNat vu344 = σ453 at hok452 hI454 hF455 ⊢
                                              have t456 : σ453 a 18 = n18 := by rw [← eσ453, sv_up_a (sv_ne k_a kv202 (by decide))]; exact t345
                                              have t457 : σ453 a 0 = (v10 : Int) + 1 := by rw [← eσ453, sv_up_a (sv_ne k_a kv202 (by decide))]; exact t346
                                              have t458 : σ453 v10 (4 : Int).toNat = v11 := by rw [← eσ453, sv_up_a (sv_ne kv10 kv202 (by decide))]; exact t347
                                              have t459 : σ453 a 5 = (v18 : Int) + 1 := by rw [← eσ453, sv_up_a (sv_ne k_a kv202 (by decide))]; exact t348
                                              have t460 : σ453 v18 (vu17 : Int).toNat = Jg7_s0 := by rw [← eσ453, sv_up_a (sv_ne kv18 kv202 (by decide))]; exact t349
                                              have t461 : σ453 a 6 = (Jg42_fa_6 : Int) + 1 := by rw [← eσ453, sv_up_a (sv_ne k_a kv202 (by decide))]; exact t350
                                              have t462 : σ453 a 7 = (Jg42_fa_7 : Int) + 1 := by rw [← eσ453, sv_up_a (sv_ne k_a kv202 (by decide))]; exact t351
                                              have t463 : σ453 a 8 = (v58 : Int) + 1 := by rw [← eσ453, sv_up_a (sv_ne k_a kv202 (by decide))]; exact t352
                                              have t464 : σ453 v58 (vu17 : Int).toNat = vu64 := by rw [← eσ453, sv_up_a (sv_ne kv58 kv202 (by decide))]; exact t353
                                              have t465 : σ453 a 11 = (v114 : Int) + 1 := by rw [← eσ453, sv_up_a (sv_ne k_a kv202 (by decide))]; exact t354
                                              have t466 : σ453 v114 (vu17 : Int).toNat = c2u64 - c1u64 := by rw [← eσ453, sv_up_a (sv_ne kv114 kv202 (by decide))]; exact t355
                                              have t467 : σ453 a 12 = (v158 : Int) + 1 := by rw [← eσ453, sv_up_a (sv_ne k_a kv202 (by decide))]; exact t356
                                              have t468 : σ453 v158 (vu17 : Int).toNat = Xg254_e15 := by rw [← eσ453, sv_up_a (sv_ne kv158 kv202 (by decide))]; exact t357
                                              have t469 : σ453 a 13 = (v179 : Int) + 1 := by rw [← eσ453, sv_up_a (sv_ne k_a kv202 (by decide))]; exact t358
                                              have t470 : σ453 v179 (vu17 : Int).toNat = Xg254_e17 := by rw [← eσ453, sv_up_a (sv_ne kv179 kv202 (by decide))]; exact t359
                                              have t471 : σ453 a 9 = (v202 : Int) + 1 := by rw [← eσ453, sv_up_a (sv_ne k_a kv202 (by decide))]; exact t360
                                              have t473 : σ453 a 10 = (v227 : Int) + 1 := by rw [← eσ453, sv_up_a (sv_ne k_a kv202 (by decide))]; exact t362
                                              have t474 : σ453 v227 (vu17 : Int).toNat = Xg254_e21 := by rw [← eσ453, sv_up_a (sv_ne kv227 kv202 (by decide))]; exact t363
                                              have t475 : σ453 a 19 = c1u319 := by rw [← eσ453, sv_up_a (sv_ne k_a kv202 (by decide))]; exact t364
                                              have t476 : σ453 a 20 = c2u319 := by rw [← eσ453, sv_up_a (sv_ne k_a kv202 (by decide))]; exact t365
                                              have t477 : σ453 a 21 = chu319 := by rw [← eσ453, sv_up_a (sv_ne k_a kv202 (by decide))]; exact t366
                                              have t478 : σ453 v202 (vu17 : Int).toNat = vu344 := by rw [← eσ453]; exact sv_up_s _ _ _ _
                                              refine sv_go C.1 C.2.1 [(.iconst 1, 1), (.istore_n 3, 1)] (pc' := 598) (by decide +kernel) rfl (lv' := [(0, sv_r a), (2, sv_i vu17), (3, sv_i 1), (4, sv_i Xg254_l4), (5, sv_i vu314), (6, sv_i vu344)]) (st' := []) rfl ?_
                                              refine sv_goto C.1 C.2.1 (off := 14) (tgt := 612) (by decide +kernel) (by decide) ?_
                                              refine sv_pick [0, 1, 2, 3] (lv2 := [(0, sv_r a), (2, sv_i vu17), (3, sv_i 1), (4, sv_i Xg254_l4)]) rfl ?_
                                              exact J371 1 Xg254_l4 vu344 Xg254_e21 σ453 ⟨by omega, by omega⟩ ⟨by omega, by omega⟩ ⟨by omega, by omega⟩ ⟨by omega, by omega⟩ hok452 hI454 hF455 t456 t457 t458 t459 t460 t461 t462 t463 t464 t465 t466 t467 t468 t469 t470 t471 t478 t473 t475 t476 t477 t474 (by omega)
                                          · have hp479 := ivu308_0 (by omega) (by omega)
                                            refine sv_go C.1 C.2.1 [(.aload_n 0, 1)] (pc' := 548) (by decide +kernel) rfl (lv' := [(0, sv_r a), (2, sv_i vu17), (3, sv_i Xg254_l3), (4, sv_i Xg254_l4)]) (st' := [sv_r a]) rfl ?_
                                            refine sv_gf C (index := 88) (ci := 10) (k := 13) (r := (RX11, TX11, 47)) (v := sv_r v179) (by decide +kernel) (by rw [k_a]; rfl) rfl (by decide) fl_X11_88 (congrArg sv_a eσ255_16) ?_
                                            refine sv_go C.1 C.2.1 [(.iload_n 2, 1), (.iconst 1, 1)] (pc' := 553) (by decide +kernel) rfl (lv' := [(0, sv_r a), (2, sv_i vu17), (3, sv_i Xg254_l3), (4, sv_i Xg254_l4)]) (st' := [sv_i 1, sv_i vu17, sv_r v179]) rfl ?_
                                            refine sv_zs C (n := 300) (by decide +kernel) (by rw [kv179]; rfl) (by decide) (by omega) (by omega) ⟨by omega, by omega⟩ (hTA _ (by rw [kv179]; decide)) hok307 (fun hok480 => ?_)
                                            have hI482 := Iσ255.up (a := v179) (k := (vu17 : Int).toNat) (z := 1) (by rw [kv179]; exact trivial)
                                            have hF483 := Fσ255.up (a := v179) (k := (vu17 : Int).toNat) (z := 1) (Or.inl (by rw [kv179]; decide))
                                            generalize eσ481 : sv_up σ255 v179 (vu17 : Int).toNat 1 = σ481 at hok480 hI482 hF483 ⊢
                                            have t484 : σ481 a 18 = n18 := by rw [← eσ481, sv_up_a (sv_ne k_a kv179 (by decide))]; exact eσ255_0
                                            have t485 : σ481 a 0 = (v10 : Int) + 1 := by rw [← eσ481, sv_up_a (sv_ne k_a kv179 (by decide))]; exact eσ255_1
                                            have t486 : σ481 v10 (4 : Int).toNat = v11 := by rw [← eσ481, sv_up_a (sv_ne kv10 kv179 (by decide))]; exact eσ255_2
                                            have t487 : σ481 a 5 = (v18 : Int) + 1 := by rw [← eσ481, sv_up_a (sv_ne k_a kv179 (by decide))]; exact eσ255_3
                                            have t488 : σ481 v18 (vu17 : Int).toNat = Jg7_s0 := by rw [← eσ481, sv_up_a (sv_ne kv18 kv179 (by decide))]; exact eσ255_4
                                            have t489 : σ481 a 6 = (Jg42_fa_6 : Int) + 1 := by rw [← eσ481, sv_up_a (sv_ne k_a kv179 (by decide))]; exact eσ255_5
                                            have t490 : σ481 a 7 = (Jg42_fa_7 : Int) + 1 := by rw [← eσ481, sv_up_a (sv_ne k_a kv179 (by decide))]; exact eσ255_6
                                            have t491 : σ481 a 8 = (v58 : Int) + 1 := by rw [← eσ481, sv_up_a (sv_ne k_a kv179 (by decide))]; exact eσ255_7
                                            have t492 : σ481 v58 (vu17 : Int).toNat = vu64 := by rw [← eσ481, sv_up_a (sv_ne kv58 kv179 (by decide))]; exact eσ255_8
                                            have t493 : σ481 a 11 = (v114 : Int) + 1 := by rw [← eσ481, sv_up_a (sv_ne k_a kv179 (by decide))]; exact eσ255_9
                                            have t494 : σ481 v114 (vu17 : Int).toNat = c2u64 - c1u64 := by rw [← eσ481, sv_up_a (sv_ne kv114 kv179 (by decide))]; exact eσ255_10
                                            have t495 : σ481 a 19 = Xg254_fa_19 := by rw [← eσ481, sv_up_a (sv_ne k_a kv179 (by decide))]; exact eσ255_11
                                            have t496 : σ481 a 20 = Xg254_fa_20 := by rw [← eσ481, sv_up_a (sv_ne k_a kv179 (by decide))]; exact eσ255_12
                                            have t497 : σ481 a 21 = Xg254_fa_21 := by rw [← eσ481, sv_up_a (sv_ne k_a kv179 (by decide))]; exact eσ255_13
                                            have t498 : σ481 a 12 = (v158 : Int) + 1 := by rw [← eσ481, sv_up_a (sv_ne k_a kv179 (by decide))]; exact eσ255_14
                                            have t499 : σ481 v158 (vu17 : Int).toNat = Xg254_e15 := by rw [← eσ481, sv_up_a (sv_ne kv158 kv179 (by decide))]; exact eσ255_15
                                            have t500 : σ481 a 13 = (v179 : Int) + 1 := by rw [← eσ481, sv_up_a (sv_ne k_a kv179 (by decide))]; exact eσ255_16
                                            have t502 : σ481 a 9 = (v202 : Int) + 1 := by rw [← eσ481, sv_up_a (sv_ne k_a kv179 (by decide))]; exact eσ255_18
                                            have t503 : σ481 v202 (vu17 : Int).toNat = Xg254_e19 := by rw [← eσ481, sv_up_a (sv_ne kv202 kv179 (by decide))]; exact eσ255_19
                                            have t504 : σ481 a 10 = (v227 : Int) + 1 := by rw [← eσ481, sv_up_a (sv_ne k_a kv179 (by decide))]; exact eσ255_20
                                            have t505 : σ481 v227 (vu17 : Int).toNat = Xg254_e21 := by rw [← eσ481, sv_up_a (sv_ne kv227 kv179 (by decide))]; exact eσ255_21
                                            have t506 : σ481 v179 (vu17 : Int).toNat = 1 := by rw [← eσ481]; exact sv_up_s _ _ _ _
                                            refine sv_go C.1 C.2.1 [(.aload_n 0, 1)] (pc' := 555) (by decide +kernel) rfl (lv' := [(0, sv_r a), (2, sv_i vu17), (3, sv_i Xg254_l3), (4, sv_i Xg254_l4)]) (st' := [sv_r a]) rfl ?_
                                            refine sv_cv C (index := 229) (k := 0) (rest := []) (ci := 10) (r := (RX11, TX11, 47)) (by decide +kernel) (sf_X11_scan l g A ty σ481 hok480 hTA hI482 a k_a (n18) ⟨by omega, by omega⟩ (Xg254_fa_20) ⟨by omega, by omega⟩ t484 t496 (by omega)) ⟨co_X11_scan, in_X11, ⟨by decide, by decide, by decide +kernel⟩, Nat.le_of_ble_eq_true rfl, Nat.le_of_ble_eq_true rfl⟩ ml_X11_229 im_X11_scan se_X11_scan (by rw [k_a]; rfl) rfl rfl rfl (Nat.le_of_ble_eq_true rfl) ⟨Nat.zero_le _, Nat.zero_le _⟩ (fun r508 σ509 hpo507 hok510 => ?_)
                                            obtain ⟨rfl, hIu511, hFu511, xu511⟩ := hpo507
                                            have hGu511 := hF483.tr hFu511 (by decide) (by decide)
                                            have t512 : σ509 a 18 = n18 := (hFu511.at k_a (by decide) (by decide)).trans t484
                                            have t513 : σ509 a 0 = (v10 : Int) + 1 := (hFu511.at k_a (by decide) (by decide)).trans t485
                                            have t514 : σ509 v10 (4 : Int).toNat = v11 := (hFu511.atA kv10 (by decide) (by decide)).trans t486
                                            have t515 : σ509 a 5 = (v18 : Int) + 1 := (hFu511.at k_a (by decide) (by decide)).trans t487
                                            have t516 : σ509 v18 (vu17 : Int).toNat = Jg7_s0 := (hFu511.atA kv18 (by decide) (by decide)).trans t488
                                            have t517 : σ509 a 6 = (Jg42_fa_6 : Int) + 1 := (hFu511.at k_a (by decide) (by decide)).trans t489
                                            have t518 : σ509 a 7 = (Jg42_fa_7 : Int) + 1 := (hFu511.at k_a (by decide) (by decide)).trans t490
                                            have t519 : σ509 a 8 = (v58 : Int) + 1 := (hFu511.at k_a (by decide) (by decide)).trans t491
                                            have t520 : σ509 v58 (vu17 : Int).toNat = vu64 := (hFu511.atA kv58 (by decide) (by decide)).trans t492
                                            have t521 : σ509 a 11 = (v114 : Int) + 1 := (hFu511.at k_a (by decide) (by decide)).trans t493
                                            have t522 : σ509 v114 (vu17 : Int).toNat = c2u64 - c1u64 := (hFu511.atA kv114 (by decide) (by decide)).trans t494
                                            have t523 : σ509 a 12 = (v158 : Int) + 1 := (hFu511.at k_a (by decide) (by decide)).trans t498
                                            have t524 : σ509 v158 (vu17 : Int).toNat = Xg254_e15 := (hFu511.atA kv158 (by decide) (by decide)).trans t499
                                            have t525 : σ509 a 13 = (v179 : Int) + 1 := (hFu511.at k_a (by decide) (by decide)).trans t500
                                            have t526 : σ509 a 9 = (v202 : Int) + 1 := (hFu511.at k_a (by decide) (by decide)).trans t502
                                            have t527 : σ509 v202 (vu17 : Int).toNat = Xg254_e19 := (hFu511.atA kv202 (by decide) (by decide)).trans t503
                                            have t528 : σ509 a 10 = (v227 : Int) + 1 := (hFu511.at k_a (by decide) (by decide)).trans t504
                                            have t529 : σ509 v227 (vu17 : Int).toNat = Xg254_e21 := (hFu511.atA kv227 (by decide) (by decide)).trans t505
                                            have t530 : σ509 v179 (vu17 : Int).toNat = 1 := (hFu511.atA kv179 (by decide) (by decide)).trans t506
                                            obtain ⟨c1u511, c2u511, chu511, e19u511, e20u511, e21u511, j1u511, j2u511, j3u511, j4u511⟩ := xu511
                                            refine sv_same (st2 := []) (lv2 := [(0, sv_r a), (2, sv_i vu17), (3, sv_i Xg254_l3), (4, sv_i Xg254_l4)]) rfl rfl ?_
                                            refine sv_goto C.1 C.2.1 (off := (-148)) (tgt := 410) (by decide +kernel) (by decide) ?_
                                            exact ih257 Xg254_l3 Xg254_l4 c1u511 c2u511 chu511 Xg254_e15 1 Xg254_e19 Xg254_e21 σ509 ⟨by omega, by omega⟩ ⟨by omega, by omega⟩ ⟨by omega, by omega⟩ ⟨by omega, by omega⟩ ⟨by omega, by omega⟩ ⟨by omega, by omega⟩ ⟨by omega, by omega⟩ ⟨by omega, by omega⟩ ⟨by omega, by omega⟩ hok510 hIu511 hGu511 t512 t513 t514 t515 t516 t517 t518 t519 t520 t521 t522 e19u511 e20u511 e21u511 t523 t524 t525 t530 t526 t527 t528 t529 (by omega) (by omega)
                                        · have hp531 := ivu302_0 (by omega) (by omega)
                                          refine sv_go C.1 C.2.1 [(.aload_n 0, 1)] (pc' := 525) (by decide +kernel) rfl (lv' := [(0, sv_r a), (2, sv_i vu17), (3, sv_i Xg254_l3), (4, sv_i Xg254_l4)]) (st' := [sv_r a]) rfl ?_
                                          refine sv_gf C (index := 84) (ci := 10) (k := 12) (r := (RX11, TX11, 47)) (v := sv_r v158) (by decide +kernel) (by rw [k_a]; rfl) rfl (by decide) fl_X11_84 (congrArg sv_a eσ255_14) ?_
                                          refine sv_go C.1 C.2.1 [(.iload_n 2, 1), (.iconst 1, 1)] (pc' := 530) (by decide +kernel) rfl (lv' := [(0, sv_r a), (2, sv_i vu17), (3, sv_i Xg254_l3), (4, sv_i Xg254_l4)]) (st' := [sv_i 1, sv_i vu17, sv_r v158]) rfl ?_
                                          refine sv_zs C (n := 300) (by decide +kernel) (by rw [kv158]; rfl) (by decide) (by omega) (by omega) ⟨by omega, by omega⟩ (hTA _ (by rw [kv158]; decide)) hok301 (fun hok532 => ?_)
                                          have hI534 := Iσ255.up (a := v158) (k := (vu17 : Int).toNat) (z := 1) (by rw [kv158]; exact trivial)
                                          have hF535 := Fσ255.up (a := v158) (k := (vu17 : Int).toNat) (z := 1) (Or.inl (by rw [kv158]; decide))
                                          generalize eσ533 : sv_up σ255 v158 (vu17 : Int).toNat 1 = σ533 at hok532 hI534 hF535 ⊢
                                          have t536 : σ533 a 18 = n18 := by rw [← eσ533, sv_up_a (sv_ne k_a kv158 (by decide))]; exact eσ255_0
                                          have t537 : σ533 a 0 = (v10 : Int) + 1 := by rw [← eσ533, sv_up_a (sv_ne k_a kv158 (by decide))]; exact eσ255_1
                                          have t538 : σ533 v10 (4 : Int).toNat = v11 := by rw [← eσ533, sv_up_a (sv_ne kv10 kv158 (by decide))]; exact eσ255_2
                                          have t539 : σ533 a 5 = (v18 : Int) + 1 := by rw [← eσ533, sv_up_a (sv_ne k_a kv158 (by decide))]; exact eσ255_3
                                          have t540 : σ533 v18 (vu17 : Int).toNat = Jg7_s0 := by rw [← eσ533, sv_up_a (sv_ne kv18 kv158 (by decide))]; exact eσ255_4
                                          have t541 : σ533 a 6 = (Jg42_fa_6 : Int) + 1 := by rw [← eσ533, sv_up_a (sv_ne k_a kv158 (by decide))]; exact eσ255_5
                                          have t542 : σ533 a 7 = (Jg42_fa_7 : Int) + 1 := by rw [← eσ533, sv_up_a (sv_ne k_a kv158 (by decide))]; exact eσ255_6
                                          have t543 : σ533 a 8 = (v58 : Int) + 1 := by rw [← eσ533, sv_up_a (sv_ne k_a kv158 (by decide))]; exact eσ255_7
                                          have t544 : σ533 v58 (vu17 : Int).toNat = vu64 := by rw [← eσ533, sv_up_a (sv_ne kv58 kv158 (by decide))]; exact eσ255_8
                                          have t545 : σ533 a 11 = (v114 : Int) + 1 := by rw [← eσ533, sv_up_a (sv_ne k_a kv158 (by decide))]; exact eσ255_9
                                          have t546 : σ533 v114 (vu17 : Int).toNat = c2u64 - c1u64 := by rw [← eσ533, sv_up_a (sv_ne kv114 kv158 (by decide))]; exact eσ255_10
                                          have t547 : σ533 a 19 = Xg254_fa_19 := by rw [← eσ533, sv_up_a (sv_ne k_a kv158 (by decide))]; exact eσ255_11
                                          have t548 : σ533 a 20 = Xg254_fa_20 := by rw [← eσ533, sv_up_a (sv_ne k_a kv158 (by decide))]; exact eσ255_12
                                          have t549 : σ533 a 21 = Xg254_fa_21 := by rw [← eσ533, sv_up_a (sv_ne k_a kv158 (by decide))]; exact eσ255_13
                                          have t550 : σ533 a 12 = (v158 : Int) + 1 := by rw [← eσ533, sv_up_a (sv_ne k_a kv158 (by decide))]; exact eσ255_14
                                          have t552 : σ533 a 13 = (v179 : Int) + 1 := by rw [← eσ533, sv_up_a (sv_ne k_a kv158 (by decide))]; exact eσ255_16
                                          have t553 : σ533 v179 (vu17 : Int).toNat = Xg254_e17 := by rw [← eσ533, sv_up_a (sv_ne kv179 kv158 (by decide))]; exact eσ255_17
                                          have t554 : σ533 a 9 = (v202 : Int) + 1 := by rw [← eσ533, sv_up_a (sv_ne k_a kv158 (by decide))]; exact eσ255_18
                                          have t555 : σ533 v202 (vu17 : Int).toNat = Xg254_e19 := by rw [← eσ533, sv_up_a (sv_ne kv202 kv158 (by decide))]; exact eσ255_19
                                          have t556 : σ533 a 10 = (v227 : Int) + 1 := by rw [← eσ533, sv_up_a (sv_ne k_a kv158 (by decide))]; exact eσ255_20
                                          have t557 : σ533 v227 (vu17 : Int).toNat = Xg254_e21 := by rw [← eσ533, sv_up_a (sv_ne kv227 kv158 (by decide))]; exact eσ255_21
                                          have t558 : σ533 v158 (vu17 : Int).toNat = 1 := by rw [← eσ533]; exact sv_up_s _ _ _ _
                                          refine sv_go C.1 C.2.1 [(.aload_n 0, 1)] (pc' := 532) (by decide +kernel) rfl (lv' := [(0, sv_r a), (2, sv_i vu17), (3, sv_i Xg254_l3), (4, sv_i Xg254_l4)]) (st' := [sv_r a]) rfl ?_
                                          refine sv_cv C (index := 229) (k := 0) (rest := []) (ci := 10) (r := (RX11, TX11, 47)) (by decide +kernel) (sf_X11_scan l g A ty σ533 hok532 hTA hI534 a k_a (n18) ⟨by omega, by omega⟩ (Xg254_fa_20) ⟨by omega, by omega⟩ t536 t548 (by omega)) ⟨co_X11_scan, in_X11, ⟨by decide, by decide, by decide +kernel⟩, Nat.le_of_ble_eq_true rfl, Nat.le_of_ble_eq_true rfl⟩ ml_X11_229 im_X11_scan se_X11_scan (by rw [k_a]; rfl) rfl rfl rfl (Nat.le_of_ble_eq_true rfl) ⟨Nat.zero_le _, Nat.zero_le _⟩ (fun r560 σ561 hpo559 hok562 => ?_)
                                          obtain ⟨rfl, hIu563, hFu563, xu563⟩ := hpo559
                                          have hGu563 := hF535.tr hFu563 (by decide) (by decide)
                                          have t564 : σ561 a 18 = n18 := (hFu563.at k_a (by decide) (by decide)).trans t536
                                          have t565 : σ561 a 0 = (v10 : Int) + 1 := (hFu563.at k_a (by decide) (by decide)).trans t537
                                          have t566 : σ561 v10 (4 : Int).toNat = v11 := (hFu563.atA kv10 (by decide) (by decide)).trans t538
                                          have t567 : σ561 a 5 = (v18 : Int) + 1 := (hFu563.at k_a (by decide) (by decide)).trans t539
                                          have t568 : σ561 v18 (vu17 : Int).toNat = Jg7_s0 := (hFu563.atA kv18 (by decide) (by decide)).trans t540
                                          have t569 : σ561 a 6 = (Jg42_fa_6 : Int) + 1 := (hFu563.at k_a (by decide) (by decide)).trans t541
                                          have t570 : σ561 a 7 = (Jg42_fa_7 : Int) + 1 := (hFu563.at k_a (by decide) (by decide)).trans t542
                                          have t571 : σ561 a 8 = (v58 : Int) + 1 := (hFu563.at k_a (by decide) (by decide)).trans t543
                                          have t572 : σ561 v58 (vu17 : Int).toNat = vu64 := (hFu563.atA kv58 (by decide) (by decide)).trans t544
                                          have t573 : σ561 a 11 = (v114 : Int) + 1 := (hFu563.at k_a (by decide) (by decide)).trans t545
                                          have t574 : σ561 v114 (vu17 : Int).toNat = c2u64 - c1u64 := (hFu563.atA kv114 (by decide) (by decide)).trans t546
                                          have t575 : σ561 a 12 = (v158 : Int) + 1 := (hFu563.at k_a (by decide) (by decide)).trans t550
                                          have t576 : σ561 a 13 = (v179 : Int) + 1 := (hFu563.at k_a (by decide) (by decide)).trans t552
                                          have t577 : σ561 v179 (vu17 : Int).toNat = Xg254_e17 := (hFu563.atA kv179 (by decide) (by decide)).trans t553
                                          have t578 : σ561 a 9 = (v202 : Int) + 1 := (hFu563.at k_a (by decide) (by decide)).trans t554
                                          have t579 : σ561 v202 (vu17 : Int).toNat = Xg254_e19 := (hFu563.atA kv202 (by decide) (by decide)).trans t555
                                          have t580 : σ561 a 10 = (v227 : Int) + 1 := (hFu563.at k_a (by decide) (by decide)).trans t556
                                          have t581 : σ561 v227 (vu17 : Int).toNat = Xg254_e21 := (hFu563.atA kv227 (by decide) (by decide)).trans t557
                                          have t582 : σ561 v158 (vu17 : Int).toNat = 1 := (hFu563.atA kv158 (by decide) (by decide)).trans t558
                                          obtain ⟨c1u563, c2u563, chu563, e19u563, e20u563, e21u563, j1u563, j2u563, j3u563, j4u563⟩ := xu563
                                          refine sv_same (st2 := []) (lv2 := [(0, sv_r a), (2, sv_i vu17), (3, sv_i Xg254_l3), (4, sv_i Xg254_l4)]) rfl rfl ?_
                                          refine sv_goto C.1 C.2.1 (off := (-125)) (tgt := 410) (by decide +kernel) (by decide) ?_
                                          exact ih257 Xg254_l3 Xg254_l4 c1u563 c2u563 chu563 1 Xg254_e17 Xg254_e19 Xg254_e21 σ561 ⟨by omega, by omega⟩ ⟨by omega, by omega⟩ ⟨by omega, by omega⟩ ⟨by omega, by omega⟩ ⟨by omega, by omega⟩ ⟨by omega, by omega⟩ ⟨by omega, by omega⟩ ⟨by omega, by omega⟩ ⟨by omega, by omega⟩ hok562 hIu563 hGu563 t564 t565 t566 t567 t568 t569 t570 t571 t572 t573 t574 e19u563 e20u563 e21u563 t575 t582 t576 t577 t578 t579 t580 t581 (by omega) (by omega)
                                      refine sv_if C.1 C.2.1 (cnd := .eq) (off := 14) (tgt := 515) (by decide +kernel) (by decide) ⟨by omega, by omega⟩ (fun (h295 : vu294 = 0) => ?_) (fun (h295 : ¬ (vu294 = 0)) => ?_)
                                      · exact J297 
                                      · have hp583 := ivu294_0 (by omega) (by omega)
                                        refine sv_go C.1 C.2.1 [(.iload 4, 2)] (pc' := 506) (by decide +kernel) rfl (lv' := [(0, sv_r a), (2, sv_i vu17), (3, sv_i Xg254_l3), (4, sv_i Xg254_l4)]) (st' := [sv_i Xg254_l4]) rfl ?_
                                        refine sv_if C.1 C.2.1 (cnd := .eq) (off := 9) (tgt := 515) (by decide +kernel) (by decide) ⟨by omega, by omega⟩ (fun (h584 : Xg254_l4 = 0) => ?_) (fun (h584 : ¬ (Xg254_l4 = 0)) => ?_)
                                        · exact J297 
                                        · refine sv_go C.1 C.2.1 [(.aload_n 0, 1), (.iconst 5, 1)] (pc' := 511) (by decide +kernel) rfl (lv' := [(0, sv_r a), (2, sv_i vu17), (3, sv_i Xg254_l3), (4, sv_i Xg254_l4)]) (st' := [sv_i 5, sv_r a]) rfl ?_
                                          refine sv_cv C (index := 225) (k := 1) (rest := []) (ci := 10) (r := (RX11, TX11, 47)) (by decide +kernel) (sf_X11_wrong l g A ty σ255 hok293 hTA Iσ255 a k_a (5) ⟨by omega, by omega⟩) ⟨co_X11_wrong, in_X11, ⟨by decide, by decide, by decide +kernel⟩, Nat.le_of_ble_eq_true rfl, Nat.le_of_ble_eq_true rfl⟩ ml_X11_225 im_X11_wrong se_X11_wrong (by rw [k_a]; rfl) rfl rfl rfl (Nat.le_of_ble_eq_true rfl) ⟨Nat.zero_le _, Nat.zero_le _⟩ (fun r586 σ587 hpo585 hok588 => ?_)
                                          obtain ⟨⟨qu589, rfl, kqu589⟩, hIu589, hFu589⟩ := hpo585
                                          have hGu589 := Fσ255.tr hFu589 (by decide) (by decide)
                                          have t590 : σ587 a 18 = n18 := (hFu589.at k_a (by decide) (by decide)).trans eσ255_0
                                          have t591 : σ587 a 0 = (v10 : Int) + 1 := (hFu589.at k_a (by decide) (by decide)).trans eσ255_1
                                          have t592 : σ587 v10 (4 : Int).toNat = v11 := (hFu589.atA kv10 (by decide) (by decide)).trans eσ255_2
                                          have t593 : σ587 a 5 = (v18 : Int) + 1 := (hFu589.at k_a (by decide) (by decide)).trans eσ255_3
                                          have t594 : σ587 v18 (vu17 : Int).toNat = Jg7_s0 := (hFu589.atA kv18 (by decide) (by decide)).trans eσ255_4
                                          have t595 : σ587 a 6 = (Jg42_fa_6 : Int) + 1 := (hFu589.at k_a (by decide) (by decide)).trans eσ255_5
                                          have t596 : σ587 a 7 = (Jg42_fa_7 : Int) + 1 := (hFu589.at k_a (by decide) (by decide)).trans eσ255_6
                                          have t597 : σ587 a 8 = (v58 : Int) + 1 := (hFu589.at k_a (by decide) (by decide)).trans eσ255_7
                                          have t598 : σ587 v58 (vu17 : Int).toNat = vu64 := (hFu589.atA kv58 (by decide) (by decide)).trans eσ255_8
                                          have t599 : σ587 a 11 = (v114 : Int) + 1 := (hFu589.at k_a (by decide) (by decide)).trans eσ255_9
                                          have t600 : σ587 v114 (vu17 : Int).toNat = c2u64 - c1u64 := (hFu589.atA kv114 (by decide) (by decide)).trans eσ255_10
                                          have t601 : σ587 a 19 = Xg254_fa_19 := (hFu589.at k_a (by decide) (by decide)).trans eσ255_11
                                          have t602 : σ587 a 20 = Xg254_fa_20 := (hFu589.at k_a (by decide) (by decide)).trans eσ255_12
                                          have t603 : σ587 a 21 = Xg254_fa_21 := (hFu589.at k_a (by decide) (by decide)).trans eσ255_13
                                          have t604 : σ587 a 12 = (v158 : Int) + 1 := (hFu589.at k_a (by decide) (by decide)).trans eσ255_14
                                          have t605 : σ587 v158 (vu17 : Int).toNat = Xg254_e15 := (hFu589.atA kv158 (by decide) (by decide)).trans eσ255_15
                                          have t606 : σ587 a 13 = (v179 : Int) + 1 := (hFu589.at k_a (by decide) (by decide)).trans eσ255_16
                                          have t607 : σ587 v179 (vu17 : Int).toNat = Xg254_e17 := (hFu589.atA kv179 (by decide) (by decide)).trans eσ255_17
                                          have t608 : σ587 a 9 = (v202 : Int) + 1 := (hFu589.at k_a (by decide) (by decide)).trans eσ255_18
                                          have t609 : σ587 v202 (vu17 : Int).toNat = Xg254_e19 := (hFu589.atA kv202 (by decide) (by decide)).trans eσ255_19
                                          have t610 : σ587 a 10 = (v227 : Int) + 1 := (hFu589.at k_a (by decide) (by decide)).trans eσ255_20
                                          have t611 : σ587 v227 (vu17 : Int).toNat = Xg254_e21 := (hFu589.atA kv227 (by decide) (by decide)).trans eσ255_21
                                          refine sv_same (st2 := [sv_r qu589]) (lv2 := [(0, sv_r a), (2, sv_i vu17), (3, sv_i Xg254_l3), (4, sv_i Xg254_l4)]) rfl rfl ?_
                                          exact st_throw C hE (by decide +kernel) hok588 ⟨kqu589, hIu589, hGu589⟩
                                    refine sv_if C.1 C.2.1 (cnd := .eq) (off := 7) (tgt := 495) (by decide +kernel) (by decide) ⟨by omega, by omega⟩ (fun (h287 : vu286 = 0) => ?_) (fun (h287 : ¬ (vu286 = 0)) => ?_)
                                    · exact J289 
                                    · have hp612 := ivu286_0 (by omega) (by omega)
                                      refine sv_go C.1 C.2.1 [(.iload_n 3, 1)] (pc' := 492) (by decide +kernel) rfl (lv' := [(0, sv_r a), (2, sv_i vu17), (3, sv_i Xg254_l3), (4, sv_i Xg254_l4)]) (st' := [sv_i Xg254_l3]) rfl ?_
                                      refine sv_if C.1 C.2.1 (cnd := .ne) (off := 17) (tgt := 509) (by decide +kernel) (by decide) ⟨by omega, by omega⟩ (fun (h613 : Xg254_l3 ≠ 0) => ?_) (fun (h613 : ¬ (Xg254_l3 ≠ 0)) => ?_)
                                      · refine sv_go C.1 C.2.1 [(.aload_n 0, 1), (.iconst 5, 1)] (pc' := 511) (by decide +kernel) rfl (lv' := [(0, sv_r a), (2, sv_i vu17), (3, sv_i Xg254_l3), (4, sv_i Xg254_l4)]) (st' := [sv_i 5, sv_r a]) rfl ?_
                                        refine sv_cv C (index := 225) (k := 1) (rest := []) (ci := 10) (r := (RX11, TX11, 47)) (by decide +kernel) (sf_X11_wrong l g A ty σ255 hok285 hTA Iσ255 a k_a (5) ⟨by omega, by omega⟩) ⟨co_X11_wrong, in_X11, ⟨by decide, by decide, by decide +kernel⟩, Nat.le_of_ble_eq_true rfl, Nat.le_of_ble_eq_true rfl⟩ ml_X11_225 im_X11_wrong se_X11_wrong (by rw [k_a]; rfl) rfl rfl rfl (Nat.le_of_ble_eq_true rfl) ⟨Nat.zero_le _, Nat.zero_le _⟩ (fun r615 σ616 hpo614 hok617 => ?_)
                                        obtain ⟨⟨qu618, rfl, kqu618⟩, hIu618, hFu618⟩ := hpo614
                                        have hGu618 := Fσ255.tr hFu618 (by decide) (by decide)
                                        have t619 : σ616 a 18 = n18 := (hFu618.at k_a (by decide) (by decide)).trans eσ255_0
                                        have t620 : σ616 a 0 = (v10 : Int) + 1 := (hFu618.at k_a (by decide) (by decide)).trans eσ255_1
                                        have t621 : σ616 v10 (4 : Int).toNat = v11 := (hFu618.atA kv10 (by decide) (by decide)).trans eσ255_2
                                        have t622 : σ616 a 5 = (v18 : Int) + 1 := (hFu618.at k_a (by decide) (by decide)).trans eσ255_3
                                        have t623 : σ616 v18 (vu17 : Int).toNat = Jg7_s0 := (hFu618.atA kv18 (by decide) (by decide)).trans eσ255_4
                                        have t624 : σ616 a 6 = (Jg42_fa_6 : Int) + 1 := (hFu618.at k_a (by decide) (by decide)).trans eσ255_5
                                        have t625 : σ616 a 7 = (Jg42_fa_7 : Int) + 1 := (hFu618.at k_a (by decide) (by decide)).trans eσ255_6
                                        have t626 : σ616 a 8 = (v58 : Int) + 1 := (hFu618.at k_a (by decide) (by decide)).trans eσ255_7
                                        have t627 : σ616 v58 (vu17 : Int).toNat = vu64 := (hFu618.atA kv58 (by decide) (by decide)).trans eσ255_8
                                        have t628 : σ616 a 11 = (v114 : Int) + 1 := (hFu618.at k_a (by decide) (by decide)).trans eσ255_9
                                        have t629 : σ616 v114 (vu17 : Int).toNat = c2u64 - c1u64 := (hFu618.atA kv114 (by decide) (by decide)).trans eσ255_10
                                        have t630 : σ616 a 19 = Xg254_fa_19 := (hFu618.at k_a (by decide) (by decide)).trans eσ255_11
                                        have t631 : σ616 a 20 = Xg254_fa_20 := (hFu618.at k_a (by decide) (by decide)).trans eσ255_12
                                        have t632 : σ616 a 21 = Xg254_fa_21 := (hFu618.at k_a (by decide) (by decide)).trans eσ255_13
                                        have t633 : σ616 a 12 = (v158 : Int) + 1 := (hFu618.at k_a (by decide) (by decide)).trans eσ255_14
                                        have t634 : σ616 v158 (vu17 : Int).toNat = Xg254_e15 := (hFu618.atA kv158 (by decide) (by decide)).trans eσ255_15
                                        have t635 : σ616 a 13 = (v179 : Int) + 1 := (hFu618.at k_a (by decide) (by decide)).trans eσ255_16
                                        have t636 : σ616 v179 (vu17 : Int).toNat = Xg254_e17 := (hFu618.atA kv179 (by decide) (by decide)).trans eσ255_17
                                        have t637 : σ616 a 9 = (v202 : Int) + 1 := (hFu618.at k_a (by decide) (by decide)).trans eσ255_18
                                        have t638 : σ616 v202 (vu17 : Int).toNat = Xg254_e19 := (hFu618.atA kv202 (by decide) (by decide)).trans eσ255_19
                                        have t639 : σ616 a 10 = (v227 : Int) + 1 := (hFu618.at k_a (by decide) (by decide)).trans eσ255_20
                                        have t640 : σ616 v227 (vu17 : Int).toNat = Xg254_e21 := (hFu618.atA kv227 (by decide) (by decide)).trans eσ255_21
                                        refine sv_same (st2 := [sv_r qu618]) (lv2 := [(0, sv_r a), (2, sv_i vu17), (3, sv_i Xg254_l3), (4, sv_i Xg254_l4)]) rfl rfl ?_
                                        exact st_throw C hE (by decide +kernel) hok617 ⟨kqu618, hIu618, hGu618⟩
                                      · exact J289 
                                  refine sv_if C.1 C.2.1 (cnd := .eq) (off := 12) (tgt := 482) (by decide +kernel) (by decide) ⟨by omega, by omega⟩ (fun (h279 : vu278 = 0) => ?_) (fun (h279 : ¬ (vu278 = 0)) => ?_)
                                  · exact J281 
                                  · have hp641 := ivu278_0 (by omega) (by omega)
                                    refine sv_go C.1 C.2.1 [(.aload_n 0, 1)] (pc' := 474) (by decide +kernel) rfl (lv' := [(0, sv_r a), (2, sv_i vu17), (3, sv_i Xg254_l3), (4, sv_i Xg254_l4)]) (st' := [sv_r a]) rfl ?_
                                    refine sv_gf C (index := 88) (ci := 10) (k := 13) (r := (RX11, TX11, 47)) (v := sv_r v179) (by decide +kernel) (by rw [k_a]; rfl) rfl (by decide) fl_X11_88 (congrArg sv_a eσ255_16) ?_
                                    refine sv_go C.1 C.2.1 [(.iload_n 2, 1)] (pc' := 478) (by decide +kernel) rfl (lv' := [(0, sv_r a), (2, sv_i vu17), (3, sv_i Xg254_l3), (4, sv_i Xg254_l4)]) (st' := [sv_i vu17, sv_r v179]) rfl ?_
                                    refine sv_za C (n := 300) (by decide +kernel) (by rw [kv179]; rfl) (by decide) (by omega) (by omega) ?_
                                    rw [eσ255_17]
                                    refine sv_if C.1 C.2.1 (cnd := .ne) (off := 30) (tgt := 509) (by decide +kernel) (by decide) ⟨by omega, by omega⟩ (fun (h642 : Xg254_e17 ≠ 0) => ?_) (fun (h642 : ¬ (Xg254_e17 ≠ 0)) => ?_)
                                    · refine sv_go C.1 C.2.1 [(.aload_n 0, 1), (.iconst 5, 1)] (pc' := 511) (by decide +kernel) rfl (lv' := [(0, sv_r a), (2, sv_i vu17), (3, sv_i Xg254_l3), (4, sv_i Xg254_l4)]) (st' := [sv_i 5, sv_r a]) rfl ?_
                                      refine sv_cv C (index := 225) (k := 1) (rest := []) (ci := 10) (r := (RX11, TX11, 47)) (by decide +kernel) (sf_X11_wrong l g A ty σ255 hok277 hTA Iσ255 a k_a (5) ⟨by omega, by omega⟩) ⟨co_X11_wrong, in_X11, ⟨by decide, by decide, by decide +kernel⟩, Nat.le_of_ble_eq_true rfl, Nat.le_of_ble_eq_true rfl⟩ ml_X11_225 im_X11_wrong se_X11_wrong (by rw [k_a]; rfl) rfl rfl rfl (Nat.le_of_ble_eq_true rfl) ⟨Nat.zero_le _, Nat.zero_le _⟩ (fun r644 σ645 hpo643 hok646 => ?_)
                                      obtain ⟨⟨qu647, rfl, kqu647⟩, hIu647, hFu647⟩ := hpo643
                                      have hGu647 := Fσ255.tr hFu647 (by decide) (by decide)
                                      have t648 : σ645 a 18 = n18 := (hFu647.at k_a (by decide) (by decide)).trans eσ255_0
                                      have t649 : σ645 a 0 = (v10 : Int) + 1 := (hFu647.at k_a (by decide) (by decide)).trans eσ255_1
                                      have t650 : σ645 v10 (4 : Int).toNat = v11 := (hFu647.atA kv10 (by decide) (by decide)).trans eσ255_2
                                      have t651 : σ645 a 5 = (v18 : Int) + 1 := (hFu647.at k_a (by decide) (by decide)).trans eσ255_3
                                      have t652 : σ645 v18 (vu17 : Int).toNat = Jg7_s0 := (hFu647.atA kv18 (by decide) (by decide)).trans eσ255_4
                                      have t653 : σ645 a 6 = (Jg42_fa_6 : Int) + 1 := (hFu647.at k_a (by decide) (by decide)).trans eσ255_5
                                      have t654 : σ645 a 7 = (Jg42_fa_7 : Int) + 1 := (hFu647.at k_a (by decide) (by decide)).trans eσ255_6
                                      have t655 : σ645 a 8 = (v58 : Int) + 1 := (hFu647.at k_a (by decide) (by decide)).trans eσ255_7
                                      have t656 : σ645 v58 (vu17 : Int).toNat = vu64 := (hFu647.atA kv58 (by decide) (by decide)).trans eσ255_8
                                      have t657 : σ645 a 11 = (v114 : Int) + 1 := (hFu647.at k_a (by decide) (by decide)).trans eσ255_9
                                      have t658 : σ645 v114 (vu17 : Int).toNat = c2u64 - c1u64 := (hFu647.atA kv114 (by decide) (by decide)).trans eσ255_10
                                      have t659 : σ645 a 19 = Xg254_fa_19 := (hFu647.at k_a (by decide) (by decide)).trans eσ255_11
                                      have t660 : σ645 a 20 = Xg254_fa_20 := (hFu647.at k_a (by decide) (by decide)).trans eσ255_12
                                      have t661 : σ645 a 21 = Xg254_fa_21 := (hFu647.at k_a (by decide) (by decide)).trans eσ255_13
                                      have t662 : σ645 a 12 = (v158 : Int) + 1 := (hFu647.at k_a (by decide) (by decide)).trans eσ255_14
                                      have t663 : σ645 v158 (vu17 : Int).toNat = Xg254_e15 := (hFu647.atA kv158 (by decide) (by decide)).trans eσ255_15
                                      have t664 : σ645 a 13 = (v179 : Int) + 1 := (hFu647.at k_a (by decide) (by decide)).trans eσ255_16
                                      have t665 : σ645 v179 (vu17 : Int).toNat = Xg254_e17 := (hFu647.atA kv179 (by decide) (by decide)).trans eσ255_17
                                      have t666 : σ645 a 9 = (v202 : Int) + 1 := (hFu647.at k_a (by decide) (by decide)).trans eσ255_18
                                      have t667 : σ645 v202 (vu17 : Int).toNat = Xg254_e19 := (hFu647.atA kv202 (by decide) (by decide)).trans eσ255_19
                                      have t668 : σ645 a 10 = (v227 : Int) + 1 := (hFu647.at k_a (by decide) (by decide)).trans eσ255_20
                                      have t669 : σ645 v227 (vu17 : Int).toNat = Xg254_e21 := (hFu647.atA kv227 (by decide) (by decide)).trans eσ255_21
                                      refine sv_same (st2 := [sv_r qu647]) (lv2 := [(0, sv_r a), (2, sv_i vu17), (3, sv_i Xg254_l3), (4, sv_i Xg254_l4)]) rfl rfl ?_
                                      exact st_throw C hE (by decide +kernel) hok646 ⟨kqu647, hIu647, hGu647⟩
                                    · exact J281 
                                refine sv_if C.1 C.2.1 (cnd := .eq) (off := 12) (tgt := 464) (by decide +kernel) (by decide) ⟨by omega, by omega⟩ (fun (h271 : vu270 = 0) => ?_) (fun (h271 : ¬ (vu270 = 0)) => ?_)
                                · exact J273 
                                · have hp670 := ivu270_0 (by omega) (by omega)
                                  refine sv_go C.1 C.2.1 [(.aload_n 0, 1)] (pc' := 456) (by decide +kernel) rfl (lv' := [(0, sv_r a), (2, sv_i vu17), (3, sv_i Xg254_l3), (4, sv_i Xg254_l4)]) (st' := [sv_r a]) rfl ?_
                                  refine sv_gf C (index := 84) (ci := 10) (k := 12) (r := (RX11, TX11, 47)) (v := sv_r v158) (by decide +kernel) (by rw [k_a]; rfl) rfl (by decide) fl_X11_84 (congrArg sv_a eσ255_14) ?_
                                  refine sv_go C.1 C.2.1 [(.iload_n 2, 1)] (pc' := 460) (by decide +kernel) rfl (lv' := [(0, sv_r a), (2, sv_i vu17), (3, sv_i Xg254_l3), (4, sv_i Xg254_l4)]) (st' := [sv_i vu17, sv_r v158]) rfl ?_
                                  refine sv_za C (n := 300) (by decide +kernel) (by rw [kv158]; rfl) (by decide) (by omega) (by omega) ?_
                                  rw [eσ255_15]
                                  refine sv_if C.1 C.2.1 (cnd := .ne) (off := 48) (tgt := 509) (by decide +kernel) (by decide) ⟨by omega, by omega⟩ (fun (h671 : Xg254_e15 ≠ 0) => ?_) (fun (h671 : ¬ (Xg254_e15 ≠ 0)) => ?_)
                                  · refine sv_go C.1 C.2.1 [(.aload_n 0, 1), (.iconst 5, 1)] (pc' := 511) (by decide +kernel) rfl (lv' := [(0, sv_r a), (2, sv_i vu17), (3, sv_i Xg254_l3), (4, sv_i Xg254_l4)]) (st' := [sv_i 5, sv_r a]) rfl ?_
                                    refine sv_cv C (index := 225) (k := 1) (rest := []) (ci := 10) (r := (RX11, TX11, 47)) (by decide +kernel) (sf_X11_wrong l g A ty σ255 hok269 hTA Iσ255 a k_a (5) ⟨by omega, by omega⟩) ⟨co_X11_wrong, in_X11, ⟨by decide, by decide, by decide +kernel⟩, Nat.le_of_ble_eq_true rfl, Nat.le_of_ble_eq_true rfl⟩ ml_X11_225 im_X11_wrong se_X11_wrong (by rw [k_a]; rfl) rfl rfl rfl (Nat.le_of_ble_eq_true rfl) ⟨Nat.zero_le _, Nat.zero_le _⟩ (fun r673 σ674 hpo672 hok675 => ?_)
                                    obtain ⟨⟨qu676, rfl, kqu676⟩, hIu676, hFu676⟩ := hpo672
                                    have hGu676 := Fσ255.tr hFu676 (by decide) (by decide)
                                    have t677 : σ674 a 18 = n18 := (hFu676.at k_a (by decide) (by decide)).trans eσ255_0
                                    have t678 : σ674 a 0 = (v10 : Int) + 1 := (hFu676.at k_a (by decide) (by decide)).trans eσ255_1
                                    have t679 : σ674 v10 (4 : Int).toNat = v11 := (hFu676.atA kv10 (by decide) (by decide)).trans eσ255_2
                                    have t680 : σ674 a 5 = (v18 : Int) + 1 := (hFu676.at k_a (by decide) (by decide)).trans eσ255_3
                                    have t681 : σ674 v18 (vu17 : Int).toNat = Jg7_s0 := (hFu676.atA kv18 (by decide) (by decide)).trans eσ255_4
                                    have t682 : σ674 a 6 = (Jg42_fa_6 : Int) + 1 := (hFu676.at k_a (by decide) (by decide)).trans eσ255_5
                                    have t683 : σ674 a 7 = (Jg42_fa_7 : Int) + 1 := (hFu676.at k_a (by decide) (by decide)).trans eσ255_6
                                    have t684 : σ674 a 8 = (v58 : Int) + 1 := (hFu676.at k_a (by decide) (by decide)).trans eσ255_7
                                    have t685 : σ674 v58 (vu17 : Int).toNat = vu64 := (hFu676.atA kv58 (by decide) (by decide)).trans eσ255_8
                                    have t686 : σ674 a 11 = (v114 : Int) + 1 := (hFu676.at k_a (by decide) (by decide)).trans eσ255_9
                                    have t687 : σ674 v114 (vu17 : Int).toNat = c2u64 - c1u64 := (hFu676.atA kv114 (by decide) (by decide)).trans eσ255_10
                                    have t688 : σ674 a 19 = Xg254_fa_19 := (hFu676.at k_a (by decide) (by decide)).trans eσ255_11
                                    have t689 : σ674 a 20 = Xg254_fa_20 := (hFu676.at k_a (by decide) (by decide)).trans eσ255_12
                                    have t690 : σ674 a 21 = Xg254_fa_21 := (hFu676.at k_a (by decide) (by decide)).trans eσ255_13
                                    have t691 : σ674 a 12 = (v158 : Int) + 1 := (hFu676.at k_a (by decide) (by decide)).trans eσ255_14
                                    have t692 : σ674 v158 (vu17 : Int).toNat = Xg254_e15 := (hFu676.atA kv158 (by decide) (by decide)).trans eσ255_15
                                    have t693 : σ674 a 13 = (v179 : Int) + 1 := (hFu676.at k_a (by decide) (by decide)).trans eσ255_16
                                    have t694 : σ674 v179 (vu17 : Int).toNat = Xg254_e17 := (hFu676.atA kv179 (by decide) (by decide)).trans eσ255_17
                                    have t695 : σ674 a 9 = (v202 : Int) + 1 := (hFu676.at k_a (by decide) (by decide)).trans eσ255_18
                                    have t696 : σ674 v202 (vu17 : Int).toNat = Xg254_e19 := (hFu676.atA kv202 (by decide) (by decide)).trans eσ255_19
                                    have t697 : σ674 a 10 = (v227 : Int) + 1 := (hFu676.at k_a (by decide) (by decide)).trans eσ255_20
                                    have t698 : σ674 v227 (vu17 : Int).toNat = Xg254_e21 := (hFu676.atA kv227 (by decide) (by decide)).trans eσ255_21
                                    refine sv_same (st2 := [sv_r qu676]) (lv2 := [(0, sv_r a), (2, sv_i vu17), (3, sv_i Xg254_l3), (4, sv_i Xg254_l4)]) rfl rfl ?_
                                    exact st_throw C hE (by decide +kernel) hok675 ⟨kqu676, hIu676, hGu676⟩
                                  · exact J273 
                              refine sv_if C.1 C.2.1 (cnd := .ne) (off := 30) (tgt := 446) (by decide +kernel) (by decide) ⟨by omega, by omega⟩ (fun (h263 : vu262 ≠ 0) => ?_) (fun (h263 : ¬ (vu262 ≠ 0)) => ?_)
                              · have hp699 := ivu262_0 (by omega) (by omega)
                                exact J265 (by omega)
                              · refine sv_go C.1 C.2.1 [(.aload_n 0, 1)] (pc' := 420) (by decide +kernel) rfl (lv' := [(0, sv_r a), (2, sv_i vu17), (3, sv_i Xg254_l3), (4, sv_i Xg254_l4)]) (st' := [sv_r a]) rfl ?_
                                refine sq_ldc C (index := 218) (tx := "octave") 20 (by decide) rfl (by decide +kernel) ?_
                                refine sv_cv C (index := 208) (k := 1) (rest := []) (ci := 10) (r := (RX11, TX11, 47)) (by decide +kernel) (sf_X11_is l g A ty σ255 hok261 hTA Iσ255 a k_a 20 (by decide) (n18) ⟨by omega, by omega⟩ (Xg254_fa_19) ⟨by omega, by omega⟩ (Xg254_fa_20) ⟨by omega, by omega⟩ (Xg254_fa_21) ⟨by omega, by omega⟩ eσ255_0 eσ255_11 eσ255_12 eσ255_13 (by omega) (by omega) (by omega)) ⟨co_X11_is, in_X11, ⟨by decide, by decide, by decide +kernel⟩, Nat.le_of_ble_eq_true rfl, Nat.le_of_ble_eq_true rfl⟩ ml_X11_208 im_X11_is se_X11_is (by rw [k_a]; rfl) rfl rfl rfl (Nat.le_of_ble_eq_true rfl) ⟨Nat.zero_le _, Nat.zero_le _⟩ (fun r701 σ702 hpo700 hok703 => ?_)
                                obtain ⟨rfl, ⟨vu704, rfl, hvu704, ivu704_0⟩⟩ := hpo700
                                refine sv_same (st2 := [sv_i vu704]) (lv2 := [(0, sv_r a), (2, sv_i vu17), (3, sv_i Xg254_l3), (4, sv_i Xg254_l4)]) rfl rfl ?_
                                refine sv_if C.1 C.2.1 (cnd := .ne) (off := 21) (tgt := 446) (by decide +kernel) (by decide) ⟨by omega, by omega⟩ (fun (h705 : vu704 ≠ 0) => ?_) (fun (h705 : ¬ (vu704 ≠ 0)) => ?_)
                                · have hp706 := ivu704_0 (by omega) (by omega)
                                  exact J265 (by omega)
                                · refine sv_go C.1 C.2.1 [(.aload_n 0, 1)] (pc' := 429) (by decide +kernel) rfl (lv' := [(0, sv_r a), (2, sv_i vu17), (3, sv_i Xg254_l3), (4, sv_i Xg254_l4)]) (st' := [sv_r a]) rfl ?_
                                  refine sq_ldc C (index := 219) (tx := "from") 21 (by decide) rfl (by decide +kernel) ?_
                                  refine sv_cv C (index := 208) (k := 1) (rest := []) (ci := 10) (r := (RX11, TX11, 47)) (by decide +kernel) (sf_X11_is l g A ty σ255 hok703 hTA Iσ255 a k_a 21 (by decide) (n18) ⟨by omega, by omega⟩ (Xg254_fa_19) ⟨by omega, by omega⟩ (Xg254_fa_20) ⟨by omega, by omega⟩ (Xg254_fa_21) ⟨by omega, by omega⟩ eσ255_0 eσ255_11 eσ255_12 eσ255_13 (by omega) (by omega) (by omega)) ⟨co_X11_is, in_X11, ⟨by decide, by decide, by decide +kernel⟩, Nat.le_of_ble_eq_true rfl, Nat.le_of_ble_eq_true rfl⟩ ml_X11_208 im_X11_is se_X11_is (by rw [k_a]; rfl) rfl rfl rfl (Nat.le_of_ble_eq_true rfl) ⟨Nat.zero_le _, Nat.zero_le _⟩ (fun r708 σ709 hpo707 hok710 => ?_)
                                  obtain ⟨rfl, ⟨vu711, rfl, hvu711, ivu711_0⟩⟩ := hpo707
                                  refine sv_same (st2 := [sv_i vu711]) (lv2 := [(0, sv_r a), (2, sv_i vu17), (3, sv_i Xg254_l3), (4, sv_i Xg254_l4)]) rfl rfl ?_
                                  refine sv_if C.1 C.2.1 (cnd := .ne) (off := 12) (tgt := 446) (by decide +kernel) (by decide) ⟨by omega, by omega⟩ (fun (h712 : vu711 ≠ 0) => ?_) (fun (h712 : ¬ (vu711 ≠ 0)) => ?_)
                                  · have hp713 := ivu711_0 (by omega) (by omega)
                                    exact J265 (by omega)
                                  · refine sv_go C.1 C.2.1 [(.aload_n 0, 1)] (pc' := 438) (by decide +kernel) rfl (lv' := [(0, sv_r a), (2, sv_i vu17), (3, sv_i Xg254_l3), (4, sv_i Xg254_l4)]) (st' := [sv_r a]) rfl ?_
                                    refine sq_ldc C (index := 220) (tx := "till") 22 (by decide) rfl (by decide +kernel) ?_
                                    refine sv_cv C (index := 208) (k := 1) (rest := []) (ci := 10) (r := (RX11, TX11, 47)) (by decide +kernel) (sf_X11_is l g A ty σ255 hok710 hTA Iσ255 a k_a 22 (by decide) (n18) ⟨by omega, by omega⟩ (Xg254_fa_19) ⟨by omega, by omega⟩ (Xg254_fa_20) ⟨by omega, by omega⟩ (Xg254_fa_21) ⟨by omega, by omega⟩ eσ255_0 eσ255_11 eσ255_12 eσ255_13 (by omega) (by omega) (by omega)) ⟨co_X11_is, in_X11, ⟨by decide, by decide, by decide +kernel⟩, Nat.le_of_ble_eq_true rfl, Nat.le_of_ble_eq_true rfl⟩ ml_X11_208 im_X11_is se_X11_is (by rw [k_a]; rfl) rfl rfl rfl (Nat.le_of_ble_eq_true rfl) ⟨Nat.zero_le _, Nat.zero_le _⟩ (fun r715 σ716 hpo714 hok717 => ?_)
                                    obtain ⟨rfl, ⟨vu718, rfl, hvu718, ivu718_0⟩⟩ := hpo714
                                    refine sv_same (st2 := [sv_i vu718]) (lv2 := [(0, sv_r a), (2, sv_i vu17), (3, sv_i Xg254_l3), (4, sv_i Xg254_l4)]) rfl rfl ?_
                                    refine sv_if C.1 C.2.1 (cnd := .eq) (off := 197) (tgt := 640) (by decide +kernel) (by decide) ⟨by omega, by omega⟩ (fun (h719 : vu718 = 0) => ?_) (fun (h719 : ¬ (vu718 = 0)) => ?_)
                                    · refine sv_go C.1 C.2.1 [(.aload_n 0, 1)] (pc' := 641) (by decide +kernel) rfl (lv' := [(0, sv_r a), (2, sv_i vu17), (3, sv_i Xg254_l3), (4, sv_i Xg254_l4)]) (st' := [sv_r a]) rfl ?_
                                      refine sv_gf C (index := 47) (ci := 10) (k := 0) (r := (RX11, TX11, 47)) (v := sv_r v10) (by decide +kernel) (by rw [k_a]; rfl) rfl (by decide) fl_X11_47 (congrArg sv_a eσ255_1) ?_
                                      refine sv_go C.1 C.2.1 [(.iconst 4, 1), (.dup2, 1)] (pc' := 646) (by decide +kernel) rfl (lv' := [(0, sv_r a), (2, sv_i vu17), (3, sv_i Xg254_l3), (4, sv_i Xg254_l4)]) (st' := [sv_i 4, sv_r v10, sv_i 4, sv_r v10]) rfl ?_
                                      refine sv_ia C (n := 5) (by decide +kernel) (by rw [kv10]; rfl) (by decide) (by omega) (by omega) ?_
                                      rw [eσ255_2]
                                      refine sv_go C.1 C.2.1 [(.iconst 1, 1), (.iadd, 1)] (pc' := 649) (by decide +kernel) rfl (lv' := [(0, sv_r a), (2, sv_i vu17), (3, sv_i Xg254_l3), (4, sv_i Xg254_l4)]) (st' := [sv_i (v11 + 1), sv_i 4, sv_r v10]) rfl ?_
                                      refine sv_is C (n := 5) (by decide +kernel) (by rw [kv10]; rfl) (by decide) (by omega) (by omega) ⟨by omega, by omega⟩ (hTA _ (by rw [kv10]; decide)) hok717 (fun hok720 => ?_)
                                      have hI722 := Iσ255.up (a := v10) (k := (4 : Int).toNat) (z := v11 + 1) (by rw [kv10]; exact ⟨by omega, by omega⟩)
                                      have hF723 := Fσ255.up (a := v10) (k := (4 : Int).toNat) (z := v11 + 1) (Or.inl (by rw [kv10]; decide))
                                      generalize eσ721 : sv_up σ255 v10 (4 : Int).toNat (v11 + 1) = σ721 at hok720 hI722 hF723 ⊢
                                      have t724 : σ721 a 18 = n18 := by rw [← eσ721, sv_up_a (sv_ne k_a kv10 (by decide))]; exact eσ255_0
                                      have t725 : σ721 a 0 = (v10 : Int) + 1 := by rw [← eσ721, sv_up_a (sv_ne k_a kv10 (by decide))]; exact eσ255_1
                                      have t727 : σ721 a 5 = (v18 : Int) + 1 := by rw [← eσ721, sv_up_a (sv_ne k_a kv10 (by decide))]; exact eσ255_3
                                      have t728 : σ721 v18 (vu17 : Int).toNat = Jg7_s0 := by rw [← eσ721, sv_up_a (sv_ne kv18 kv10 (by decide))]; exact eσ255_4
                                      have t729 : σ721 a 6 = (Jg42_fa_6 : Int) + 1 := by rw [← eσ721, sv_up_a (sv_ne k_a kv10 (by decide))]; exact eσ255_5
                                      have t730 : σ721 a 7 = (Jg42_fa_7 : Int) + 1 := by rw [← eσ721, sv_up_a (sv_ne k_a kv10 (by decide))]; exact eσ255_6
                                      have t731 : σ721 a 8 = (v58 : Int) + 1 := by rw [← eσ721, sv_up_a (sv_ne k_a kv10 (by decide))]; exact eσ255_7
                                      have t732 : σ721 v58 (vu17 : Int).toNat = vu64 := by rw [← eσ721, sv_up_a (sv_ne kv58 kv10 (by decide))]; exact eσ255_8
                                      have t733 : σ721 a 11 = (v114 : Int) + 1 := by rw [← eσ721, sv_up_a (sv_ne k_a kv10 (by decide))]; exact eσ255_9
                                      have t734 : σ721 v114 (vu17 : Int).toNat = c2u64 - c1u64 := by rw [← eσ721, sv_up_a (sv_ne kv114 kv10 (by decide))]; exact eσ255_10
                                      have t735 : σ721 a 19 = Xg254_fa_19 := by rw [← eσ721, sv_up_a (sv_ne k_a kv10 (by decide))]; exact eσ255_11
                                      have t736 : σ721 a 20 = Xg254_fa_20 := by rw [← eσ721, sv_up_a (sv_ne k_a kv10 (by decide))]; exact eσ255_12
                                      have t737 : σ721 a 21 = Xg254_fa_21 := by rw [← eσ721, sv_up_a (sv_ne k_a kv10 (by decide))]; exact eσ255_13
                                      have t738 : σ721 a 12 = (v158 : Int) + 1 := by rw [← eσ721, sv_up_a (sv_ne k_a kv10 (by decide))]; exact eσ255_14
                                      have t739 : σ721 v158 (vu17 : Int).toNat = Xg254_e15 := by rw [← eσ721, sv_up_a (sv_ne kv158 kv10 (by decide))]; exact eσ255_15
                                      have t740 : σ721 a 13 = (v179 : Int) + 1 := by rw [← eσ721, sv_up_a (sv_ne k_a kv10 (by decide))]; exact eσ255_16
                                      have t741 : σ721 v179 (vu17 : Int).toNat = Xg254_e17 := by rw [← eσ721, sv_up_a (sv_ne kv179 kv10 (by decide))]; exact eσ255_17
                                      have t742 : σ721 a 9 = (v202 : Int) + 1 := by rw [← eσ721, sv_up_a (sv_ne k_a kv10 (by decide))]; exact eσ255_18
                                      have t743 : σ721 v202 (vu17 : Int).toNat = Xg254_e19 := by rw [← eσ721, sv_up_a (sv_ne kv202 kv10 (by decide))]; exact eσ255_19
                                      have t744 : σ721 a 10 = (v227 : Int) + 1 := by rw [← eσ721, sv_up_a (sv_ne k_a kv10 (by decide))]; exact eσ255_20
                                      have t745 : σ721 v227 (vu17 : Int).toNat = Xg254_e21 := by rw [← eσ721, sv_up_a (sv_ne kv227 kv10 (by decide))]; exact eσ255_21
                                      have t746 : σ721 v10 (4 : Int).toNat = v11 + 1 := by rw [← eσ721]; exact sv_up_s _ _ _ _
                                      exact st_of (sv_vret C hr (by decide +kernel) hok720 (⟨rfl, hI722, hF723, _, _, _, t735, t736, t737, by omega, by omega, by omega, by omega⟩))
                                    · have hp747 := ivu718_0 (by omega) (by omega)
                                      exact J265 (by omega)
                          exact L256 (((n18 - c1u146 : Int)).toNat + 1) 0 0 c1u146 c2u146 chu146 0 0 1 2000 σ229 ⟨by omega, by omega⟩ ⟨by omega, by omega⟩ ⟨by omega, by omega⟩ ⟨by omega, by omega⟩ ⟨by omega, by omega⟩ ⟨by omega, by omega⟩ ⟨by omega, by omega⟩ ⟨by omega, by omega⟩ ⟨by omega, by omega⟩ hok228 hI230 hF231 t232 t233 t234 t235 t236 t237 t238 t239 t240 t241 t242 t243 t244 t245 t246 t247 t248 t249 t250 t251 t252 t253 (by omega) (by omega)
                        · refine sv_go C.1 C.2.1 [(.aload_n 0, 1), (.iconst 4, 1), (.iload_n 3, 1)] (pc' := 349) (by decide +kernel) rfl (lv' := [(0, sv_r a), (2, sv_i vu17), (3, sv_i Xg138_l3)]) (st' := [sv_i Xg138_l3, sv_i 4, sv_r a]) rfl ?_
                          refine sv_cs C (index := 166) (k := 2) (rest := [sv_r a]) (by decide +kernel) (sf_X11_at l g A ty σ134 okσ134 hTA Iσ134 (4) ⟨by omega, by omega⟩ (Xg138_l3) ⟨by omega, by omega⟩) ⟨co_X11_at, in_X11, ⟨by decide, by decide, by decide +kernel⟩, Nat.le_of_ble_eq_true rfl, Nat.le_of_ble_eq_true rfl⟩ ml_X11_166 st_X11_at rfl rfl (Nat.le_of_ble_eq_true rfl) ⟨Nat.zero_le _, Nat.zero_le _⟩ (fun r749 σ750 hpo748 hok751 => ?_)
                          obtain ⟨rfl, ⟨vu752, rfl, hvu752⟩⟩ := hpo748
                          refine sv_same (st2 := [sv_i vu752, sv_r a]) (lv2 := [(0, sv_r a), (2, sv_i vu17), (3, sv_i Xg138_l3)]) rfl rfl ?_
                          refine sv_go C.1 C.2.1 [(.iload_n 2, 1)] (pc' := 353) (by decide +kernel) rfl (lv' := [(0, sv_r a), (2, sv_i vu17), (3, sv_i Xg138_l3)]) (st' := [sv_i vu17, sv_i vu752, sv_r a]) rfl ?_
                          refine sv_cv C (index := 266) (k := 2) (rest := []) (ci := 10) (r := (RX11, TX11, 47)) (by decide +kernel) (sf_X11_isNamed l g A ty σ134 hok751 hTA Iσ134 a k_a (vu752) ⟨by omega, by omega⟩ (vu17) ⟨by omega, by omega⟩) ⟨co_X11_isNamed, in_X11, ⟨by decide, by decide, by decide +kernel⟩, Nat.le_of_ble_eq_true rfl, Nat.le_of_ble_eq_true rfl⟩ ml_X11_266 im_X11_isNamed se_X11_isNamed (by rw [k_a]; rfl) rfl rfl rfl (Nat.le_of_ble_eq_true rfl) ⟨Nat.zero_le _, Nat.zero_le _⟩ (fun r754 σ755 hpo753 hok756 => ?_)
                          obtain ⟨rfl, ⟨vu757, rfl, hvu757⟩⟩ := hpo753
                          refine sv_same (st2 := [sv_i vu757]) (lv2 := [(0, sv_r a), (2, sv_i vu17), (3, sv_i Xg138_l3)]) rfl rfl ?_
                          refine sv_if C.1 C.2.1 (cnd := .eq) (off := 9) (tgt := 365) (by decide +kernel) (by decide) ⟨by omega, by omega⟩ (fun (h758 : vu757 = 0) => ?_) (fun (h758 : ¬ (vu757 = 0)) => ?_)
                          · refine sv_go C.1 C.2.1 [(.iinc 3 1, 3)] (pc' := 368) (by decide +kernel) rfl (lv' := [(0, sv_r a), (2, sv_i vu17), (3, sv_i (Xg138_l3 + 1))]) (st' := []) rfl ?_
                            refine sv_goto C.1 C.2.1 (off := (-32)) (tgt := 336) (by decide +kernel) (by decide) ?_
                            exact ih140 (Xg138_l3 + 1) ⟨by omega, by omega⟩ (by omega)
                          · refine sv_go C.1 C.2.1 [(.aload_n 0, 1), (.iconst 2, 1)] (pc' := 361) (by decide +kernel) rfl (lv' := [(0, sv_r a), (2, sv_i vu17), (3, sv_i Xg138_l3)]) (st' := [sv_i 2, sv_r a]) rfl ?_
                            refine sv_cv C (index := 225) (k := 1) (rest := []) (ci := 10) (r := (RX11, TX11, 47)) (by decide +kernel) (sf_X11_wrong l g A ty σ134 hok756 hTA Iσ134 a k_a (2) ⟨by omega, by omega⟩) ⟨co_X11_wrong, in_X11, ⟨by decide, by decide, by decide +kernel⟩, Nat.le_of_ble_eq_true rfl, Nat.le_of_ble_eq_true rfl⟩ ml_X11_225 im_X11_wrong se_X11_wrong (by rw [k_a]; rfl) rfl rfl rfl (Nat.le_of_ble_eq_true rfl) ⟨Nat.zero_le _, Nat.zero_le _⟩ (fun r760 σ761 hpo759 hok762 => ?_)
                            obtain ⟨⟨qu763, rfl, kqu763⟩, hIu763, hFu763⟩ := hpo759
                            have hGu763 := Fσ134.tr hFu763 (by decide) (by decide)
                            have t764 : σ761 a 18 = n18 := (hFu763.at k_a (by decide) (by decide)).trans eσ134_0
                            have t765 : σ761 a 0 = (v10 : Int) + 1 := (hFu763.at k_a (by decide) (by decide)).trans eσ134_1
                            have t766 : σ761 v10 (4 : Int).toNat = v11 := (hFu763.atA kv10 (by decide) (by decide)).trans eσ134_2
                            have t767 : σ761 a 5 = (v18 : Int) + 1 := (hFu763.at k_a (by decide) (by decide)).trans eσ134_3
                            have t768 : σ761 v18 (vu17 : Int).toNat = Jg7_s0 := (hFu763.atA kv18 (by decide) (by decide)).trans eσ134_4
                            have t769 : σ761 a 6 = (Jg42_fa_6 : Int) + 1 := (hFu763.at k_a (by decide) (by decide)).trans eσ134_5
                            have t770 : σ761 a 7 = (Jg42_fa_7 : Int) + 1 := (hFu763.at k_a (by decide) (by decide)).trans eσ134_6
                            have t771 : σ761 a 8 = (v58 : Int) + 1 := (hFu763.at k_a (by decide) (by decide)).trans eσ134_7
                            have t772 : σ761 a 19 = c1u64 := (hFu763.at k_a (by decide) (by decide)).trans eσ134_8
                            have t773 : σ761 a 20 = c2u64 := (hFu763.at k_a (by decide) (by decide)).trans eσ134_9
                            have t774 : σ761 a 21 = chu64 := (hFu763.at k_a (by decide) (by decide)).trans eσ134_10
                            have t775 : σ761 v58 (vu17 : Int).toNat = vu64 := (hFu763.atA kv58 (by decide) (by decide)).trans eσ134_11
                            have t776 : σ761 a 11 = (v114 : Int) + 1 := (hFu763.at k_a (by decide) (by decide)).trans eσ134_12
                            have t777 : σ761 v114 (vu17 : Int).toNat = c2u64 - c1u64 := (hFu763.atA kv114 (by decide) (by decide)).trans eσ134_13
                            refine sv_same (st2 := [sv_r qu763]) (lv2 := [(0, sv_r a), (2, sv_i vu17), (3, sv_i Xg138_l3)]) rfl rfl ?_
                            exact st_throw C hE (by decide +kernel) hok762 ⟨kqu763, hIu763, hGu763⟩
                    exact L139 (((59 - 0 : Int)).toNat + 1) 0 ⟨by omega, by omega⟩ (by omega)
                  · refine sv_go C.1 C.2.1 [(.aload_n 0, 1)] (pc' := 293) (by decide +kernel) rfl (lv' := [(0, sv_r a), (2, sv_i vu17), (3, sv_i Xg133_l3)]) (st' := [sv_r a]) rfl ?_
                    obtain ⟨v778, ev778, kv778⟩ := Iσ134.ref (k := 14) k_a rfl
                    refine sv_gf C (index := 91) (ci := 10) (k := 14) (r := (RX11, TX11, 47)) (v := sv_r v778) (by decide +kernel) (by rw [k_a]; rfl) rfl (by decide) fl_X11_91 (congrArg sv_a ev778) ?_
                    refine sv_go C.1 C.2.1 [(.bipush 12, 2), (.iload_n 2, 1), (.imul, 1), (.iload_n 3, 1), (.iadd, 1), (.iload_n 3, 1), (.aload_n 0, 1)] (pc' := 304) (by decide +kernel) rfl (lv' := [(0, sv_r a), (2, sv_i vu17), (3, sv_i Xg133_l3)]) (st' := [sv_r a, sv_i Xg133_l3, sv_i ((12 * vu17) + Xg133_l3), sv_r v778]) rfl ?_
                    refine sv_gf C (index := 81) (ci := 10) (k := 11) (r := (RX11, TX11, 47)) (v := sv_r v114) (by decide +kernel) (by rw [k_a]; rfl) rfl (by decide) fl_X11_81 (congrArg sv_a eσ134_12) ?_
                    refine sv_go C.1 C.2.1 [(.iload_n 2, 1)] (pc' := 308) (by decide +kernel) rfl (lv' := [(0, sv_r a), (2, sv_i vu17), (3, sv_i Xg133_l3)]) (st' := [sv_i vu17, sv_r v114, sv_i Xg133_l3, sv_i ((12 * vu17) + Xg133_l3), sv_r v778]) rfl ?_
                    refine sv_ia C (n := 300) (by decide +kernel) (by rw [kv114]; rfl) (by decide) (by omega) (by omega) ?_
                    rw [eσ134_13]
                    have J781 : ∀ (Jg780_s0 : Int), ((-128) ≤ Jg780_s0 ∧ Jg780_s0 ≤ 127) → st_E p l e { frames := 6, cells := 0, slots := 0, locals := 129 } s m args below meth c 7 g A ty (fun r σ' => (r = []) ∧ sv_inv sp_1 ty σ' ∧ sv_ofx [(10, 19), (10, 20), (10, 21), (10, 22), (10, 23), (10, 24)] [60, 65, 66, 67, 68, 69, 70, 71, 72, 73, 74] ty σ σ' ∧ ∃ c1 c2 hc : Int, σ' a 19 = c1 ∧ σ' a 20 = c2 ∧ σ' a 21 = hc ∧ (b1 ≤ c1 ∧ c1 ≤ c2 ∧ c2 ≤ n18) ∧ (0 ≤ hc ∧ hc ≤ 4) ∧ (hc = 0 ∨ c1 < c2) ∧ (hc ≠ 1 ∨ c2 ≤ c1 + 12)) (fun x σ' => ty x = 11 ∧ sv_inv sp_1 ty σ' ∧ sv_ofx [(10, 19), (10, 20), (10, 21), (10, 22), (10, 23), (10, 24)] [60, 65, 66, 67, 68, 69, 70, 71, 72, 73, 74] ty σ σ') σ134 327 [(0, sv_r a), (2, sv_i vu17), (3, sv_i Xg133_l3)] [sv_i Jg780_s0, sv_i ((12 * vu17) + Xg133_l3), sv_r v778] := by
                      intro Jg780_s0 hJg780_s0
                      refine sv_bs C (n := 3600) (by decide +kernel) (by rw [kv778]; rfl) (by decide) (by omega) (by omega) ⟨by omega, by omega⟩ (hTA _ (by rw [kv778]; decide)) okσ134 (fun hok782 => ?_)
                      have hI784 := Iσ134.up (a := v778) (k := ((12 * vu17) + Xg133_l3 : Int).toNat) (z := Jg780_s0) (by rw [kv778]; exact trivial)
                      have hF785 := Fσ134.up (a := v778) (k := ((12 * vu17) + Xg133_l3 : Int).toNat) (z := Jg780_s0) (Or.inl (by rw [kv778]; decide))
                      generalize eσ783 : sv_up σ134 v778 ((12 * vu17) + Xg133_l3 : Int).toNat Jg780_s0 = σ783 at hok782 hI784 hF785 ⊢
                      have t786 : σ783 a 18 = n18 := by rw [← eσ783, sv_up_a (sv_ne k_a kv778 (by decide))]; exact eσ134_0
                      have t787 : σ783 a 0 = (v10 : Int) + 1 := by rw [← eσ783, sv_up_a (sv_ne k_a kv778 (by decide))]; exact eσ134_1
                      have t788 : σ783 v10 (4 : Int).toNat = v11 := by rw [← eσ783, sv_up_a (sv_ne kv10 kv778 (by decide))]; exact eσ134_2
                      have t789 : σ783 a 5 = (v18 : Int) + 1 := by rw [← eσ783, sv_up_a (sv_ne k_a kv778 (by decide))]; exact eσ134_3
                      have t790 : σ783 v18 (vu17 : Int).toNat = Jg7_s0 := by rw [← eσ783, sv_up_a (sv_ne kv18 kv778 (by decide))]; exact eσ134_4
                      have t791 : σ783 a 6 = (Jg42_fa_6 : Int) + 1 := by rw [← eσ783, sv_up_a (sv_ne k_a kv778 (by decide))]; exact eσ134_5
                      have t792 : σ783 a 7 = (Jg42_fa_7 : Int) + 1 := by rw [← eσ783, sv_up_a (sv_ne k_a kv778 (by decide))]; exact eσ134_6
                      have t793 : σ783 a 8 = (v58 : Int) + 1 := by rw [← eσ783, sv_up_a (sv_ne k_a kv778 (by decide))]; exact eσ134_7
                      have t794 : σ783 a 19 = c1u64 := by rw [← eσ783, sv_up_a (sv_ne k_a kv778 (by decide))]; exact eσ134_8
                      have t795 : σ783 a 20 = c2u64 := by rw [← eσ783, sv_up_a (sv_ne k_a kv778 (by decide))]; exact eσ134_9
                      have t796 : σ783 a 21 = chu64 := by rw [← eσ783, sv_up_a (sv_ne k_a kv778 (by decide))]; exact eσ134_10
                      have t797 : σ783 v58 (vu17 : Int).toNat = vu64 := by rw [← eσ783, sv_up_a (sv_ne kv58 kv778 (by decide))]; exact eσ134_11
                      have t798 : σ783 a 11 = (v114 : Int) + 1 := by rw [← eσ783, sv_up_a (sv_ne k_a kv778 (by decide))]; exact eσ134_12
                      have t799 : σ783 v114 (vu17 : Int).toNat = c2u64 - c1u64 := by rw [← eσ783, sv_up_a (sv_ne kv114 kv778 (by decide))]; exact eσ134_13
                      have t800 : σ783 a 14 = (v778 : Int) + 1 := by rw [← eσ783, sv_up_a (sv_ne k_a kv778 (by decide))]; exact ev778
                      have t801 : σ783 v778 ((12 * vu17) + Xg133_l3 : Int).toNat = Jg780_s0 := by rw [← eσ783]; exact sv_up_s _ _ _ _
                      refine sv_go C.1 C.2.1 [(.iinc 3 1, 3)] (pc' := 331) (by decide +kernel) rfl (lv' := [(0, sv_r a), (2, sv_i vu17), (3, sv_i (Xg133_l3 + 1))]) (st' := []) rfl ?_
                      refine sv_goto C.1 C.2.1 (off := (-45)) (tgt := 286) (by decide +kernel) (by decide) ?_
                      exact ih136 (Xg133_l3 + 1) σ783 ⟨by omega, by omega⟩ hok782 hI784 hF785 t786 t787 t788 t789 t790 t791 t792 t793 t794 t795 t796 t797 t798 t799 (by omega)
                    refine sv_icmp C.1 C.2.1 (cnd := .ge) (off := 17) (tgt := 326) (by decide +kernel) (by decide) ⟨by omega, by omega⟩ ⟨by omega, by omega⟩ (fun (h779 : (c2u64 - c1u64) ≤ Xg133_l3) => ?_) (fun (h779 : ¬ ((c2u64 - c1u64) ≤ Xg133_l3)) => ?_)
                    · refine sv_go C.1 C.2.1 [(.iconst 0, 1)] (pc' := 327) (by decide +kernel) rfl (lv' := [(0, sv_r a), (2, sv_i vu17), (3, sv_i Xg133_l3)]) (st' := [sv_i 0, sv_i ((12 * vu17) + Xg133_l3), sv_r v778]) rfl ?_
                      exact J781 0 ⟨by omega, by omega⟩
                    · refine sv_go C.1 C.2.1 [(.aload_n 0, 1)] (pc' := 313) (by decide +kernel) rfl (lv' := [(0, sv_r a), (2, sv_i vu17), (3, sv_i Xg133_l3)]) (st' := [sv_r a, sv_i ((12 * vu17) + Xg133_l3), sv_r v778]) rfl ?_
                      obtain ⟨v802, ev802, kv802⟩ := Iσ134.ref (k := 16) k_a rfl
                      refine sv_gf C (index := 102) (ci := 10) (k := 16) (r := (RX11, TX11, 47)) (v := sv_r v802) (by decide +kernel) (by rw [k_a]; rfl) rfl (by decide) fl_X11_102 (congrArg sv_a ev802) ?_
                      refine sv_go C.1 C.2.1 [(.aload_n 0, 1)] (pc' := 317) (by decide +kernel) rfl (lv' := [(0, sv_r a), (2, sv_i vu17), (3, sv_i Xg133_l3)]) (st' := [sv_r a, sv_r v802, sv_i ((12 * vu17) + Xg133_l3), sv_r v778]) rfl ?_
                      refine sv_gf C (index := 172) (ci := 10) (k := 19) (r := (RX11, TX11, 47)) (v := sv_i c1u64) (by decide +kernel) (by rw [k_a]; rfl) rfl (by decide) fl_X11_172 (congrArg sv_i eσ134_8) ?_
                      refine sv_go C.1 C.2.1 [(.iload_n 3, 1), (.iadd, 1)] (pc' := 322) (by decide +kernel) rfl (lv' := [(0, sv_r a), (2, sv_i vu17), (3, sv_i Xg133_l3)]) (st' := [sv_i (c1u64 + Xg133_l3), sv_r v802, sv_i ((12 * vu17) + Xg133_l3), sv_r v778]) rfl ?_
                      refine sv_ba C (n := 4000) (by decide +kernel) (by rw [kv802]; rfl) (by decide) (by omega) (by omega) ?_
                      obtain ⟨v803, ev803, hv803⟩ := sv_rdeb okσ134 (a := v802) (k := (c1u64 + Xg133_l3 : Int).toNat) (n := 4000) (by rw [kv802]; rfl) (by omega)
                      rw [ev803]
                      refine sv_goto C.1 C.2.1 (off := 4) (tgt := 327) (by decide +kernel) (by decide) ?_
                      exact J781 v803 ⟨by omega, by omega⟩
              exact L135 (((12 - 0 : Int)).toNat + 1) 0 σ116 ⟨by omega, by omega⟩ hok115 hI117 hF118 t119 t120 t121 t122 t123 t124 t125 t126 t127 t128 t129 t130 t131 t132 (by omega)
            · refine sv_go C.1 C.2.1 [(.aload_n 0, 1), (.iconst 1, 1)] (pc' := 265) (by decide +kernel) rfl (lv' := [(0, sv_r a), (2, sv_i vu17)]) (st' := [sv_i 1, sv_r a]) rfl ?_
              refine sv_cv C (index := 225) (k := 1) (rest := []) (ci := 10) (r := (RX11, TX11, 47)) (by decide +kernel) (sf_X11_wrong l g A ty σ75 hok111 hTA hI76 a k_a (1) ⟨by omega, by omega⟩) ⟨co_X11_wrong, in_X11, ⟨by decide, by decide, by decide +kernel⟩, Nat.le_of_ble_eq_true rfl, Nat.le_of_ble_eq_true rfl⟩ ml_X11_225 im_X11_wrong se_X11_wrong (by rw [k_a]; rfl) rfl rfl rfl (Nat.le_of_ble_eq_true rfl) ⟨Nat.zero_le _, Nat.zero_le _⟩ (fun r805 σ806 hpo804 hok807 => ?_)
              obtain ⟨⟨qu808, rfl, kqu808⟩, hIu808, hFu808⟩ := hpo804
              have hGu808 := hF77.tr hFu808 (by decide) (by decide)
              have t809 : σ806 a 18 = n18 := (hFu808.at k_a (by decide) (by decide)).trans t78
              have t810 : σ806 a 0 = (v10 : Int) + 1 := (hFu808.at k_a (by decide) (by decide)).trans t79
              have t811 : σ806 v10 (4 : Int).toNat = v11 := (hFu808.atA kv10 (by decide) (by decide)).trans t80
              have t812 : σ806 a 5 = (v18 : Int) + 1 := (hFu808.at k_a (by decide) (by decide)).trans t81
              have t813 : σ806 v18 (vu17 : Int).toNat = Jg7_s0 := (hFu808.atA kv18 (by decide) (by decide)).trans t82
              have t814 : σ806 a 6 = (Jg42_fa_6 : Int) + 1 := (hFu808.at k_a (by decide) (by decide)).trans t83
              have t815 : σ806 a 7 = (Jg42_fa_7 : Int) + 1 := (hFu808.at k_a (by decide) (by decide)).trans t84
              have t816 : σ806 a 8 = (v58 : Int) + 1 := (hFu808.at k_a (by decide) (by decide)).trans t85
              have t817 : σ806 a 19 = c1u64 := (hFu808.at k_a (by decide) (by decide)).trans t86
              have t818 : σ806 a 20 = c2u64 := (hFu808.at k_a (by decide) (by decide)).trans t87
              have t819 : σ806 a 21 = chu64 := (hFu808.at k_a (by decide) (by decide)).trans t88
              have t820 : σ806 v58 (vu17 : Int).toNat = vu64 := (hFu808.atA kv58 (by decide) (by decide)).trans t89
              refine sv_same (st2 := [sv_r qu808]) (lv2 := [(0, sv_r a), (2, sv_i vu17)]) rfl rfl ?_
              exact st_throw C hE (by decide +kernel) hok807 ⟨kqu808, hIu808, hGu808⟩
        refine sv_if C.1 C.2.1 (cnd := .ne) (off := 55) (tgt := 147) (by decide +kernel) (by decide) ⟨by omega, by omega⟩ (fun (h41 : Jg7_s0 ≠ 0) => ?_) (fun (h41 : ¬ (Jg7_s0 ≠ 0)) => ?_)
        · refine sv_go C.1 C.2.1 [(.iload_n 1, 1), (.iconst 1, 1)] (pc' := 149) (by decide +kernel) rfl (lv' := [(0, sv_r a), (1, sv_i Jg7_s0), (2, sv_i vu17)]) (st' := [sv_i 1, sv_i Jg7_s0]) rfl ?_
          refine sv_icmp C.1 C.2.1 (cnd := .ne) (off := 55) (tgt := 204) (by decide +kernel) (by decide) ⟨by omega, by omega⟩ ⟨by omega, by omega⟩ (fun (h821 : Jg7_s0 ≠ 1) => ?_) (fun (h821 : ¬ (Jg7_s0 ≠ 1)) => ?_)
          · refine sv_go C.1 C.2.1 [(.aload_n 0, 1)] (pc' := 205) (by decide +kernel) rfl (lv' := [(0, sv_r a), (1, sv_i Jg7_s0), (2, sv_i vu17)]) (st' := [sv_r a]) rfl ?_
            obtain ⟨v822, ev822, kv822⟩ := hIu35.ref (k := 6) k_a rfl
            refine sv_gf C (index := 66) (ci := 10) (k := 6) (r := (RX11, TX11, 47)) (v := sv_r v822) (by decide +kernel) (by rw [k_a]; rfl) rfl (by decide) fl_X11_66 (congrArg sv_a ev822) ?_
            refine sv_go C.1 C.2.1 [(.iload_n 2, 1), (.aload_n 0, 1), (.iconst 1, 1), (.iconst 5, 1)] (pc' := 212) (by decide +kernel) rfl (lv' := [(0, sv_r a), (1, sv_i Jg7_s0), (2, sv_i vu17)]) (st' := [sv_i 5, sv_i 1, sv_r a, sv_i vu17, sv_r v822]) rfl ?_
            refine st_cv C (index := 252) (k := 2) (rest := [sv_i vu17, sv_r v822]) (ci := 10) (r := (RX11, TX11, 47)) (by decide +kernel) (sf_X11_takeNumber l g A ty σ33 hok34 hTA hIu35 a k_a (1) ⟨by omega, by omega⟩ (5) ⟨by omega, by omega⟩ (n18) ⟨by omega, by omega⟩ (c1u35) ⟨by omega, by omega⟩ (c2u35) ⟨by omega, by omega⟩ (chu35) ⟨by omega, by omega⟩ t36 e19u35 e20u35 e21u35 (by omega) (by omega) (by omega)) ⟨co_X11_takeNumber, in_X11, ⟨by decide, by decide, by decide +kernel⟩, Nat.le_of_ble_eq_true rfl, Nat.le_of_ble_eq_true rfl⟩ ml_X11_252 im_X11_takeNumber se_X11_takeNumber (by rw [k_a]; rfl) rfl rfl rfl (Nat.le_of_ble_eq_true rfl) ⟨Nat.zero_le _, Nat.zero_le _⟩ (fun r824 σ825 hpo823 hok826 => ?_) (fun xt827 σ825 hpo823 hok826 => st_out C hE hok826 ⟨hpo823.1, hpo823.2.1, hGu35.tr hpo823.2.2 (by decide) (by decide)⟩)
            obtain ⟨⟨vu828, rfl, hvu828, ivu828_0⟩, hIu828, hFu828, xu828⟩ := hpo823
            have hGu828 := hGu35.tr hFu828 (by decide) (by decide)
            have t829 : σ825 a 18 = n18 := (hFu828.at k_a (by decide) (by decide)).trans t36
            have t830 : σ825 a 0 = (v10 : Int) + 1 := (hFu828.at k_a (by decide) (by decide)).trans t37
            have t831 : σ825 v10 (4 : Int).toNat = v11 := (hFu828.atA kv10 (by decide) (by decide)).trans t38
            have t832 : σ825 a 5 = (v18 : Int) + 1 := (hFu828.at k_a (by decide) (by decide)).trans t39
            have t833 : σ825 v18 (vu17 : Int).toNat = Jg7_s0 := (hFu828.atA kv18 (by decide) (by decide)).trans t40
            have t834 : σ825 a 6 = (v822 : Int) + 1 := (hFu828.at k_a (by decide) (by decide)).trans ev822
            obtain ⟨c1u828, c2u828, chu828, e19u828, e20u828, e21u828, j1u828, j2u828, j3u828, j4u828⟩ := xu828
            have hp835 := ivu828_0 (by omega) (by omega)
            refine sv_same (st2 := [sv_i vu828, sv_i vu17, sv_r v822]) (lv2 := [(0, sv_r a), (1, sv_i Jg7_s0), (2, sv_i vu17)]) rfl rfl ?_
            refine sv_is C (n := 300) (by decide +kernel) (by rw [kv822]; rfl) (by decide) (by omega) (by omega) ⟨by omega, by omega⟩ (hTA _ (by rw [kv822]; decide)) hok826 (fun hok836 => ?_)
            have hI838 := hIu828.up (a := v822) (k := (vu17 : Int).toNat) (z := vu828) (by rw [kv822]; exact ⟨by omega, by omega⟩)
            have hF839 := hGu828.up (a := v822) (k := (vu17 : Int).toNat) (z := vu828) (Or.inl (by rw [kv822]; decide))
            generalize eσ837 : sv_up σ825 v822 (vu17 : Int).toNat vu828 = σ837 at hok836 hI838 hF839 ⊢
            have t840 : σ837 a 18 = n18 := by rw [← eσ837, sv_up_a (sv_ne k_a kv822 (by decide))]; exact t829
            have t841 : σ837 a 0 = (v10 : Int) + 1 := by rw [← eσ837, sv_up_a (sv_ne k_a kv822 (by decide))]; exact t830
            have t842 : σ837 v10 (4 : Int).toNat = v11 := by rw [← eσ837, sv_up_a (sv_ne kv10 kv822 (by decide))]; exact t831
            have t843 : σ837 a 5 = (v18 : Int) + 1 := by rw [← eσ837, sv_up_a (sv_ne k_a kv822 (by decide))]; exact t832
            have t844 : σ837 v18 (vu17 : Int).toNat = Jg7_s0 := by rw [← eσ837, sv_up_a (sv_ne kv18 kv822 (by decide))]; exact t833
            have t845 : σ837 a 6 = (v822 : Int) + 1 := by rw [← eσ837, sv_up_a (sv_ne k_a kv822 (by decide))]; exact t834
            have t846 : σ837 a 19 = c1u828 := by rw [← eσ837, sv_up_a (sv_ne k_a kv822 (by decide))]; exact e19u828
            have t847 : σ837 a 20 = c2u828 := by rw [← eσ837, sv_up_a (sv_ne k_a kv822 (by decide))]; exact e20u828
            have t848 : σ837 a 21 = chu828 := by rw [← eσ837, sv_up_a (sv_ne k_a kv822 (by decide))]; exact e21u828
            have t849 : σ837 v822 (vu17 : Int).toNat = vu828 := by rw [← eσ837]; exact sv_up_s _ _ _ _
            refine sv_go C.1 C.2.1 [(.aload_n 0, 1)] (pc' := 217) (by decide +kernel) rfl (lv' := [(0, sv_r a), (1, sv_i Jg7_s0), (2, sv_i vu17)]) (st' := [sv_r a]) rfl ?_
            obtain ⟨v850, ev850, kv850⟩ := hI838.ref (k := 7) k_a rfl
            refine sv_gf C (index := 69) (ci := 10) (k := 7) (r := (RX11, TX11, 47)) (v := sv_r v850) (by decide +kernel) (by rw [k_a]; rfl) rfl (by decide) fl_X11_69 (congrArg sv_a ev850) ?_
            refine sv_go C.1 C.2.1 [(.iload_n 2, 1), (.aload_n 0, 1), (.iconst 1, 1), (.bipush 12, 2)] (pc' := 225) (by decide +kernel) rfl (lv' := [(0, sv_r a), (1, sv_i Jg7_s0), (2, sv_i vu17)]) (st' := [sv_i 12, sv_i 1, sv_r a, sv_i vu17, sv_r v850]) rfl ?_
            refine st_cv C (index := 252) (k := 2) (rest := [sv_i vu17, sv_r v850]) (ci := 10) (r := (RX11, TX11, 47)) (by decide +kernel) (sf_X11_takeNumber l g A ty σ837 hok836 hTA hI838 a k_a (1) ⟨by omega, by omega⟩ (12) ⟨by omega, by omega⟩ (n18) ⟨by omega, by omega⟩ (c1u828) ⟨by omega, by omega⟩ (c2u828) ⟨by omega, by omega⟩ (chu828) ⟨by omega, by omega⟩ t840 t846 t847 t848 (by omega) (by omega) (by omega)) ⟨co_X11_takeNumber, in_X11, ⟨by decide, by decide, by decide +kernel⟩, Nat.le_of_ble_eq_true rfl, Nat.le_of_ble_eq_true rfl⟩ ml_X11_252 im_X11_takeNumber se_X11_takeNumber (by rw [k_a]; rfl) rfl rfl rfl (Nat.le_of_ble_eq_true rfl) ⟨Nat.zero_le _, Nat.zero_le _⟩ (fun r852 σ853 hpo851 hok854 => ?_) (fun xt855 σ853 hpo851 hok854 => st_out C hE hok854 ⟨hpo851.1, hpo851.2.1, hF839.tr hpo851.2.2 (by decide) (by decide)⟩)
            obtain ⟨⟨vu856, rfl, hvu856, ivu856_0⟩, hIu856, hFu856, xu856⟩ := hpo851
            have hGu856 := hF839.tr hFu856 (by decide) (by decide)
            have t857 : σ853 a 18 = n18 := (hFu856.at k_a (by decide) (by decide)).trans t840
            have t858 : σ853 a 0 = (v10 : Int) + 1 := (hFu856.at k_a (by decide) (by decide)).trans t841
            have t859 : σ853 v10 (4 : Int).toNat = v11 := (hFu856.atA kv10 (by decide) (by decide)).trans t842
            have t860 : σ853 a 5 = (v18 : Int) + 1 := (hFu856.at k_a (by decide) (by decide)).trans t843
            have t861 : σ853 v18 (vu17 : Int).toNat = Jg7_s0 := (hFu856.atA kv18 (by decide) (by decide)).trans t844
            have t862 : σ853 a 6 = (v822 : Int) + 1 := (hFu856.at k_a (by decide) (by decide)).trans t845
            have t863 : σ853 v822 (vu17 : Int).toNat = vu828 := (hFu856.atA kv822 (by decide) (by decide)).trans t849
            have t864 : σ853 a 7 = (v850 : Int) + 1 := (hFu856.at k_a (by decide) (by decide)).trans ev850
            obtain ⟨c1u856, c2u856, chu856, e19u856, e20u856, e21u856, j1u856, j2u856, j3u856, j4u856⟩ := xu856
            have hp865 := ivu856_0 (by omega) (by omega)
            refine sv_same (st2 := [sv_i vu856, sv_i vu17, sv_r v850]) (lv2 := [(0, sv_r a), (1, sv_i Jg7_s0), (2, sv_i vu17)]) rfl rfl ?_
            refine sv_is C (n := 300) (by decide +kernel) (by rw [kv850]; rfl) (by decide) (by omega) (by omega) ⟨by omega, by omega⟩ (hTA _ (by rw [kv850]; decide)) hok854 (fun hok866 => ?_)
            have hI868 := hIu856.up (a := v850) (k := (vu17 : Int).toNat) (z := vu856) (by rw [kv850]; exact ⟨by omega, by omega⟩)
            have hF869 := hGu856.up (a := v850) (k := (vu17 : Int).toNat) (z := vu856) (Or.inl (by rw [kv850]; decide))
            generalize eσ867 : sv_up σ853 v850 (vu17 : Int).toNat vu856 = σ867 at hok866 hI868 hF869 ⊢
            have t870 : σ867 a 18 = n18 := by rw [← eσ867, sv_up_a (sv_ne k_a kv850 (by decide))]; exact t857
            have t871 : σ867 a 0 = (v10 : Int) + 1 := by rw [← eσ867, sv_up_a (sv_ne k_a kv850 (by decide))]; exact t858
            have t872 : σ867 v10 (4 : Int).toNat = v11 := by rw [← eσ867, sv_up_a (sv_ne kv10 kv850 (by decide))]; exact t859
            have t873 : σ867 a 5 = (v18 : Int) + 1 := by rw [← eσ867, sv_up_a (sv_ne k_a kv850 (by decide))]; exact t860
            have t874 : σ867 v18 (vu17 : Int).toNat = Jg7_s0 := by rw [← eσ867, sv_up_a (sv_ne kv18 kv850 (by decide))]; exact t861
            have t875 : σ867 a 6 = (v822 : Int) + 1 := by rw [← eσ867, sv_up_a (sv_ne k_a kv850 (by decide))]; exact t862
            have t876 : σ867 v822 (vu17 : Int).toNat = vu828 := by rw [← eσ867, sv_up_a (sv_ne kv822 kv850 (by decide))]; exact t863
            have t877 : σ867 a 7 = (v850 : Int) + 1 := by rw [← eσ867, sv_up_a (sv_ne k_a kv850 (by decide))]; exact t864
            have t878 : σ867 a 19 = c1u856 := by rw [← eσ867, sv_up_a (sv_ne k_a kv850 (by decide))]; exact e19u856
            have t879 : σ867 a 20 = c2u856 := by rw [← eσ867, sv_up_a (sv_ne k_a kv850 (by decide))]; exact e20u856
            have t880 : σ867 a 21 = chu856 := by rw [← eσ867, sv_up_a (sv_ne k_a kv850 (by decide))]; exact e21u856
            have t881 : σ867 v850 (vu17 : Int).toNat = vu856 := by rw [← eσ867]; exact sv_up_s _ _ _ _
            refine sv_pick [0, 2] (lv2 := [(0, sv_r a), (2, sv_i vu17)]) rfl ?_
            exact J44 v822 v850 c1u856 c2u856 chu856 σ867 kv822 kv850 ⟨by omega, by omega⟩ ⟨by omega, by omega⟩ ⟨by omega, by omega⟩ hok866 hI868 hF869 t870 t871 t872 t873 t874 t875 t877 t878 t879 t880 (by omega)
          · refine sv_go C.1 C.2.1 [(.aload_n 0, 1), (.bipush 45, 2)] (pc' := 155) (by decide +kernel) rfl (lv' := [(0, sv_r a), (1, sv_i Jg7_s0), (2, sv_i vu17)]) (st' := [sv_i 45, sv_r a]) rfl ?_
            refine sv_cv C (index := 249) (k := 1) (rest := []) (ci := 10) (r := (RX11, TX11, 47)) (by decide +kernel) (sf_X11_isSign l g A ty σ33 hok34 hTA hIu35 a k_a (45) ⟨by omega, by omega⟩ (n18) ⟨by omega, by omega⟩ (c1u35) ⟨by omega, by omega⟩ (c2u35) ⟨by omega, by omega⟩ (chu35) ⟨by omega, by omega⟩ t36 e19u35 e20u35 e21u35 (by omega) (by omega) (by omega)) ⟨co_X11_isSign, in_X11, ⟨by decide, by decide, by decide +kernel⟩, Nat.le_of_ble_eq_true rfl, Nat.le_of_ble_eq_true rfl⟩ ml_X11_249 im_X11_isSign se_X11_isSign (by rw [k_a]; rfl) rfl rfl rfl (Nat.le_of_ble_eq_true rfl) ⟨Nat.zero_le _, Nat.zero_le _⟩ (fun r883 σ884 hpo882 hok885 => ?_)
            obtain ⟨rfl, ⟨vu886, rfl, hvu886, ivu886_0⟩⟩ := hpo882
            refine sv_same (st2 := [sv_i vu886]) (lv2 := [(0, sv_r a), (1, sv_i Jg7_s0), (2, sv_i vu17)]) rfl rfl ?_
            refine sv_go C.1 C.2.1 [(.istore_n 3, 1), (.iload_n 3, 1)] (pc' := 160) (by decide +kernel) rfl (lv' := [(0, sv_r a), (1, sv_i Jg7_s0), (2, sv_i vu17), (3, sv_i vu886)]) (st' := [sv_i vu886]) rfl ?_
            have J890 : ∀ (Jg888_fa_19 : Int) (Jg888_fa_20 : Int) (Jg888_fa_21 : Int) (σ889 : Nat → Nat → Int), (0 ≤ Jg888_fa_19 ∧ Jg888_fa_19 ≤ 4000) → (0 ≤ Jg888_fa_20 ∧ Jg888_fa_20 ≤ 4000) → (0 ≤ Jg888_fa_21 ∧ Jg888_fa_21 ≤ 4) → (sv_ok ty σ889) → (sv_inv sp_1 ty σ889) → (sv_ofx [(10, 19), (10, 20), (10, 21), (10, 22), (10, 23), (10, 24)] [60, 65, 66, 67, 68, 69, 70, 71, 72, 73, 74] ty σ σ889) → (σ889 a 18 = n18) → (σ889 a 0 = (v10 : Int) + 1) → (σ889 v10 (4 : Int).toNat = v11) → (σ889 a 5 = (v18 : Int) + 1) → (σ889 v18 (vu17 : Int).toNat = Jg7_s0) → (σ889 a 19 = Jg888_fa_19) → (σ889 a 20 = Jg888_fa_20) → (σ889 a 21 = Jg888_fa_21) → (b1 ≤ Jg888_fa_19 ∧ Jg888_fa_19 ≤ Jg888_fa_20 ∧ Jg888_fa_20 ≤ n18 ∧ (Jg888_fa_21 = 0 ∨ Jg888_fa_19 < Jg888_fa_20) ∧ (Jg888_fa_21 ≠ 1 ∨ Jg888_fa_20 ≤ Jg888_fa_19 + 12)) → st_E p l e { frames := 6, cells := 0, slots := 0, locals := 129 } s m args below meth c 7 g A ty (fun r σ' => (r = []) ∧ sv_inv sp_1 ty σ' ∧ sv_ofx [(10, 19), (10, 20), (10, 21), (10, 22), (10, 23), (10, 24)] [60, 65, 66, 67, 68, 69, 70, 71, 72, 73, 74] ty σ σ' ∧ ∃ c1 c2 hc : Int, σ' a 19 = c1 ∧ σ' a 20 = c2 ∧ σ' a 21 = hc ∧ (b1 ≤ c1 ∧ c1 ≤ c2 ∧ c2 ≤ n18) ∧ (0 ≤ hc ∧ hc ≤ 4) ∧ (hc = 0 ∨ c1 < c2) ∧ (hc ≠ 1 ∨ c2 ≤ c1 + 12)) (fun x σ' => ty x = 11 ∧ sv_inv sp_1 ty σ' ∧ sv_ofx [(10, 19), (10, 20), (10, 21), (10, 22), (10, 23), (10, 24)] [60, 65, 66, 67, 68, 69, 70, 71, 72, 73, 74] ty σ σ') σ889 167 [(0, sv_r a), (2, sv_i vu17), (3, sv_i vu886)] [] := by
              intro Jg888_fa_19 Jg888_fa_20 Jg888_fa_21 σ889 hJg888_fa_19 hJg888_fa_20 hJg888_fa_21 okσ889 Iσ889 Fσ889 eσ889_0 eσ889_1 eσ889_2 eσ889_3 eσ889_4 eσ889_5 eσ889_6 eσ889_7 zj167
              refine sv_go C.1 C.2.1 [(.aload_n 0, 1), (.iconst 0, 1), (.bipush 90, 2)] (pc' := 171) (by decide +kernel) rfl (lv' := [(0, sv_r a), (2, sv_i vu17), (3, sv_i vu886)]) (st' := [sv_i 90, sv_i 0, sv_r a]) rfl ?_
              refine st_cv C (index := 252) (k := 2) (rest := []) (ci := 10) (r := (RX11, TX11, 47)) (by decide +kernel) (sf_X11_takeNumber l g A ty σ889 okσ889 hTA Iσ889 a k_a (0) ⟨by omega, by omega⟩ (90) ⟨by omega, by omega⟩ (n18) ⟨by omega, by omega⟩ (Jg888_fa_19) ⟨by omega, by omega⟩ (Jg888_fa_20) ⟨by omega, by omega⟩ (Jg888_fa_21) ⟨by omega, by omega⟩ eσ889_0 eσ889_5 eσ889_6 eσ889_7 (by omega) (by omega) (by omega)) ⟨co_X11_takeNumber, in_X11, ⟨by decide, by decide, by decide +kernel⟩, Nat.le_of_ble_eq_true rfl, Nat.le_of_ble_eq_true rfl⟩ ml_X11_252 im_X11_takeNumber se_X11_takeNumber (by rw [k_a]; rfl) rfl rfl rfl (Nat.le_of_ble_eq_true rfl) ⟨Nat.zero_le _, Nat.zero_le _⟩ (fun r892 σ893 hpo891 hok894 => ?_) (fun xt895 σ893 hpo891 hok894 => st_out C hE hok894 ⟨hpo891.1, hpo891.2.1, Fσ889.tr hpo891.2.2 (by decide) (by decide)⟩)
              obtain ⟨⟨vu896, rfl, hvu896, ivu896_0⟩, hIu896, hFu896, xu896⟩ := hpo891
              have hGu896 := Fσ889.tr hFu896 (by decide) (by decide)
              have t897 : σ893 a 18 = n18 := (hFu896.at k_a (by decide) (by decide)).trans eσ889_0
              have t898 : σ893 a 0 = (v10 : Int) + 1 := (hFu896.at k_a (by decide) (by decide)).trans eσ889_1
              have t899 : σ893 v10 (4 : Int).toNat = v11 := (hFu896.atA kv10 (by decide) (by decide)).trans eσ889_2
              have t900 : σ893 a 5 = (v18 : Int) + 1 := (hFu896.at k_a (by decide) (by decide)).trans eσ889_3
              have t901 : σ893 v18 (vu17 : Int).toNat = Jg7_s0 := (hFu896.atA kv18 (by decide) (by decide)).trans eσ889_4
              obtain ⟨c1u896, c2u896, chu896, e19u896, e20u896, e21u896, j1u896, j2u896, j3u896, j4u896⟩ := xu896
              have hp902 := ivu896_0 (by omega) (by omega)
              refine sv_same (st2 := [sv_i vu896]) (lv2 := [(0, sv_r a), (2, sv_i vu17), (3, sv_i vu886)]) rfl rfl ?_
              refine sv_go C.1 C.2.1 [(.istore 4, 2), (.aload_n 0, 1)] (pc' := 177) (by decide +kernel) rfl (lv' := [(0, sv_r a), (2, sv_i vu17), (3, sv_i vu886), (4, sv_i vu896)]) (st' := [sv_r a]) rfl ?_
              obtain ⟨v903, ev903, kv903⟩ := hIu896.ref (k := 6) k_a rfl
              refine sv_gf C (index := 66) (ci := 10) (k := 6) (r := (RX11, TX11, 47)) (v := sv_r v903) (by decide +kernel) (by rw [k_a]; rfl) rfl (by decide) fl_X11_66 (congrArg sv_a ev903) ?_
              refine sv_go C.1 C.2.1 [(.iload_n 2, 1), (.iload_n 3, 1)] (pc' := 182) (by decide +kernel) rfl (lv' := [(0, sv_r a), (2, sv_i vu17), (3, sv_i vu886), (4, sv_i vu896)]) (st' := [sv_i vu886, sv_i vu17, sv_r v903]) rfl ?_
              have J906 : ∀ (Jg905_s0 : Int), ((-90) ≤ Jg905_s0 ∧ Jg905_s0 ≤ 90) → st_E p l e { frames := 6, cells := 0, slots := 0, locals := 129 } s m args below meth c 7 g A ty (fun r σ' => (r = []) ∧ sv_inv sp_1 ty σ' ∧ sv_ofx [(10, 19), (10, 20), (10, 21), (10, 22), (10, 23), (10, 24)] [60, 65, 66, 67, 68, 69, 70, 71, 72, 73, 74] ty σ σ' ∧ ∃ c1 c2 hc : Int, σ' a 19 = c1 ∧ σ' a 20 = c2 ∧ σ' a 21 = hc ∧ (b1 ≤ c1 ∧ c1 ≤ c2 ∧ c2 ≤ n18) ∧ (0 ≤ hc ∧ hc ≤ 4) ∧ (hc = 0 ∨ c1 < c2) ∧ (hc ≠ 1 ∨ c2 ≤ c1 + 12)) (fun x σ' => ty x = 11 ∧ sv_inv sp_1 ty σ' ∧ sv_ofx [(10, 19), (10, 20), (10, 21), (10, 22), (10, 23), (10, 24)] [60, 65, 66, 67, 68, 69, 70, 71, 72, 73, 74] ty σ σ') σ893 193 [(0, sv_r a), (2, sv_i vu17)] [sv_i Jg905_s0, sv_i vu17, sv_r v903] := by
                intro Jg905_s0 hJg905_s0
                refine sv_is C (n := 300) (by decide +kernel) (by rw [kv903]; rfl) (by decide) (by omega) (by omega) ⟨by omega, by omega⟩ (hTA _ (by rw [kv903]; decide)) hok894 (fun hok907 => ?_)
                have hI909 := hIu896.up (a := v903) (k := (vu17 : Int).toNat) (z := Jg905_s0) (by rw [kv903]; exact ⟨by omega, by omega⟩)
                have hF910 := hGu896.up (a := v903) (k := (vu17 : Int).toNat) (z := Jg905_s0) (Or.inl (by rw [kv903]; decide))
                generalize eσ908 : sv_up σ893 v903 (vu17 : Int).toNat Jg905_s0 = σ908 at hok907 hI909 hF910 ⊢
                have t911 : σ908 a 18 = n18 := by rw [← eσ908, sv_up_a (sv_ne k_a kv903 (by decide))]; exact t897
                have t912 : σ908 a 0 = (v10 : Int) + 1 := by rw [← eσ908, sv_up_a (sv_ne k_a kv903 (by decide))]; exact t898
                have t913 : σ908 v10 (4 : Int).toNat = v11 := by rw [← eσ908, sv_up_a (sv_ne kv10 kv903 (by decide))]; exact t899
                have t914 : σ908 a 5 = (v18 : Int) + 1 := by rw [← eσ908, sv_up_a (sv_ne k_a kv903 (by decide))]; exact t900
                have t915 : σ908 v18 (vu17 : Int).toNat = Jg7_s0 := by rw [← eσ908, sv_up_a (sv_ne kv18 kv903 (by decide))]; exact t901
                have t916 : σ908 a 19 = c1u896 := by rw [← eσ908, sv_up_a (sv_ne k_a kv903 (by decide))]; exact e19u896
                have t917 : σ908 a 20 = c2u896 := by rw [← eσ908, sv_up_a (sv_ne k_a kv903 (by decide))]; exact e20u896
                have t918 : σ908 a 21 = chu896 := by rw [← eσ908, sv_up_a (sv_ne k_a kv903 (by decide))]; exact e21u896
                have t919 : σ908 a 6 = (v903 : Int) + 1 := by rw [← eσ908, sv_up_a (sv_ne k_a kv903 (by decide))]; exact ev903
                have t920 : σ908 v903 (vu17 : Int).toNat = Jg905_s0 := by rw [← eσ908]; exact sv_up_s _ _ _ _
                refine sv_go C.1 C.2.1 [(.aload_n 0, 1)] (pc' := 195) (by decide +kernel) rfl (lv' := [(0, sv_r a), (2, sv_i vu17)]) (st' := [sv_r a]) rfl ?_
                obtain ⟨v921, ev921, kv921⟩ := hI909.ref (k := 7) k_a rfl
                refine sv_gf C (index := 69) (ci := 10) (k := 7) (r := (RX11, TX11, 47)) (v := sv_r v921) (by decide +kernel) (by rw [k_a]; rfl) rfl (by decide) fl_X11_69 (congrArg sv_a ev921) ?_
                refine sv_go C.1 C.2.1 [(.iload_n 2, 1), (.iconst 0, 1)] (pc' := 200) (by decide +kernel) rfl (lv' := [(0, sv_r a), (2, sv_i vu17)]) (st' := [sv_i 0, sv_i vu17, sv_r v921]) rfl ?_
                refine sv_is C (n := 300) (by decide +kernel) (by rw [kv921]; rfl) (by decide) (by omega) (by omega) ⟨by omega, by omega⟩ (hTA _ (by rw [kv921]; decide)) hok907 (fun hok922 => ?_)
                have hI924 := hI909.up (a := v921) (k := (vu17 : Int).toNat) (z := 0) (by rw [kv921]; exact ⟨by omega, by omega⟩)
                have hF925 := hF910.up (a := v921) (k := (vu17 : Int).toNat) (z := 0) (Or.inl (by rw [kv921]; decide))
                generalize eσ923 : sv_up σ908 v921 (vu17 : Int).toNat 0 = σ923 at hok922 hI924 hF925 ⊢
                have t926 : σ923 a 18 = n18 := by rw [← eσ923, sv_up_a (sv_ne k_a kv921 (by decide))]; exact t911
                have t927 : σ923 a 0 = (v10 : Int) + 1 := by rw [← eσ923, sv_up_a (sv_ne k_a kv921 (by decide))]; exact t912
                have t928 : σ923 v10 (4 : Int).toNat = v11 := by rw [← eσ923, sv_up_a (sv_ne kv10 kv921 (by decide))]; exact t913
                have t929 : σ923 a 5 = (v18 : Int) + 1 := by rw [← eσ923, sv_up_a (sv_ne k_a kv921 (by decide))]; exact t914
                have t930 : σ923 v18 (vu17 : Int).toNat = Jg7_s0 := by rw [← eσ923, sv_up_a (sv_ne kv18 kv921 (by decide))]; exact t915
                have t931 : σ923 a 19 = c1u896 := by rw [← eσ923, sv_up_a (sv_ne k_a kv921 (by decide))]; exact t916
                have t932 : σ923 a 20 = c2u896 := by rw [← eσ923, sv_up_a (sv_ne k_a kv921 (by decide))]; exact t917
                have t933 : σ923 a 21 = chu896 := by rw [← eσ923, sv_up_a (sv_ne k_a kv921 (by decide))]; exact t918
                have t934 : σ923 a 6 = (v903 : Int) + 1 := by rw [← eσ923, sv_up_a (sv_ne k_a kv921 (by decide))]; exact t919
                have t935 : σ923 v903 (vu17 : Int).toNat = Jg905_s0 := by rw [← eσ923, sv_up_a (sv_ne kv903 kv921 (by decide))]; exact t920
                have t936 : σ923 a 7 = (v921 : Int) + 1 := by rw [← eσ923, sv_up_a (sv_ne k_a kv921 (by decide))]; exact ev921
                have t937 : σ923 v921 (vu17 : Int).toNat = 0 := by rw [← eσ923]; exact sv_up_s _ _ _ _
                refine sv_goto C.1 C.2.1 (off := 28) (tgt := 229) (by decide +kernel) (by decide) ?_
                exact J44 v903 v921 c1u896 c2u896 chu896 σ923 kv903 kv921 ⟨by omega, by omega⟩ ⟨by omega, by omega⟩ ⟨by omega, by omega⟩ hok922 hI924 hF925 t926 t927 t928 t929 t930 t934 t936 t931 t932 t933 (by omega)
              refine sv_if C.1 C.2.1 (cnd := .eq) (off := 9) (tgt := 191) (by decide +kernel) (by decide) ⟨by omega, by omega⟩ (fun (h904 : vu886 = 0) => ?_) (fun (h904 : ¬ (vu886 = 0)) => ?_)
              · refine sv_go C.1 C.2.1 [(.iload 4, 2)] (pc' := 193) (by decide +kernel) rfl (lv' := [(0, sv_r a), (2, sv_i vu17), (3, sv_i vu886), (4, sv_i vu896)]) (st' := [sv_i vu896, sv_i vu17, sv_r v903]) rfl ?_
                refine sv_pick [0, 1] (lv2 := [(0, sv_r a), (2, sv_i vu17)]) rfl ?_
                exact J906 vu896 ⟨by omega, by omega⟩
              · have hp938 := ivu886_0 (by omega) (by omega)
                refine sv_go C.1 C.2.1 [(.iload 4, 2), (.ineg, 1)] (pc' := 188) (by decide +kernel) rfl (lv' := [(0, sv_r a), (2, sv_i vu17), (3, sv_i vu886), (4, sv_i vu896)]) (st' := [sv_i (-vu896), sv_i vu17, sv_r v903]) rfl ?_
                refine sv_goto C.1 C.2.1 (off := 5) (tgt := 193) (by decide +kernel) (by decide) ?_
                refine sv_pick [0, 1] (lv2 := [(0, sv_r a), (2, sv_i vu17)]) rfl ?_
                exact J906 (-vu896) ⟨by omega, by omega⟩
            refine sv_if C.1 C.2.1 (cnd := .eq) (off := 7) (tgt := 167) (by decide +kernel) (by decide) ⟨by omega, by omega⟩ (fun (h887 : vu886 = 0) => ?_) (fun (h887 : ¬ (vu886 = 0)) => ?_)
            · refine sv_pick [0, 2, 3] (lv2 := [(0, sv_r a), (2, sv_i vu17), (3, sv_i vu886)]) rfl ?_
              exact J890 c1u35 c2u35 chu35 σ33 ⟨by omega, by omega⟩ ⟨by omega, by omega⟩ ⟨by omega, by omega⟩ hok885 hIu35 hGu35 t36 t37 t38 t39 t40 e19u35 e20u35 e21u35 (by omega)
            · have hp939 := ivu886_0 (by omega) (by omega)
              refine sv_go C.1 C.2.1 [(.aload_n 0, 1)] (pc' := 164) (by decide +kernel) rfl (lv' := [(0, sv_r a), (1, sv_i Jg7_s0), (2, sv_i vu17), (3, sv_i vu886)]) (st' := [sv_r a]) rfl ?_
              refine sv_cv C (index := 229) (k := 0) (rest := []) (ci := 10) (r := (RX11, TX11, 47)) (by decide +kernel) (sf_X11_scan l g A ty σ33 hok885 hTA hIu35 a k_a (n18) ⟨by omega, by omega⟩ (c2u35) ⟨by omega, by omega⟩ t36 e20u35 (by omega)) ⟨co_X11_scan, in_X11, ⟨by decide, by decide, by decide +kernel⟩, Nat.le_of_ble_eq_true rfl, Nat.le_of_ble_eq_true rfl⟩ ml_X11_229 im_X11_scan se_X11_scan (by rw [k_a]; rfl) rfl rfl rfl (Nat.le_of_ble_eq_true rfl) ⟨Nat.zero_le _, Nat.zero_le _⟩ (fun r941 σ942 hpo940 hok943 => ?_)
              obtain ⟨rfl, hIu944, hFu944, xu944⟩ := hpo940
              have hGu944 := hGu35.tr hFu944 (by decide) (by decide)
              have t945 : σ942 a 18 = n18 := (hFu944.at k_a (by decide) (by decide)).trans t36
              have t946 : σ942 a 0 = (v10 : Int) + 1 := (hFu944.at k_a (by decide) (by decide)).trans t37
              have t947 : σ942 v10 (4 : Int).toNat = v11 := (hFu944.atA kv10 (by decide) (by decide)).trans t38
              have t948 : σ942 a 5 = (v18 : Int) + 1 := (hFu944.at k_a (by decide) (by decide)).trans t39
              have t949 : σ942 v18 (vu17 : Int).toNat = Jg7_s0 := (hFu944.atA kv18 (by decide) (by decide)).trans t40
              obtain ⟨c1u944, c2u944, chu944, e19u944, e20u944, e21u944, j1u944, j2u944, j3u944, j4u944⟩ := xu944
              refine sv_same (st2 := []) (lv2 := [(0, sv_r a), (1, sv_i Jg7_s0), (2, sv_i vu17), (3, sv_i vu886)]) rfl rfl ?_
              refine sv_pick [0, 2, 3] (lv2 := [(0, sv_r a), (2, sv_i vu17), (3, sv_i vu886)]) rfl ?_
              exact J890 c1u944 c2u944 chu944 σ942 ⟨by omega, by omega⟩ ⟨by omega, by omega⟩ ⟨by omega, by omega⟩ hok943 hIu944 hGu944 t945 t946 t947 t948 t949 e19u944 e20u944 e21u944 (by omega)
        · refine sv_go C.1 C.2.1 [(.aload_n 0, 1)] (pc' := 96) (by decide +kernel) rfl (lv' := [(0, sv_r a), (1, sv_i Jg7_s0), (2, sv_i vu17)]) (st' := [sv_r a]) rfl ?_
          obtain ⟨v950, ev950, kv950⟩ := hIu35.ref (k := 6) k_a rfl
          refine sv_gf C (index := 66) (ci := 10) (k := 6) (r := (RX11, TX11, 47)) (v := sv_r v950) (by decide +kernel) (by rw [k_a]; rfl) rfl (by decide) fl_X11_66 (congrArg sv_a ev950) ?_
          refine sv_go C.1 C.2.1 [(.iload_n 2, 1), (.aload_n 0, 1), (.iconst 1, 1), (.bipush 12, 2)] (pc' := 104) (by decide +kernel) rfl (lv' := [(0, sv_r a), (1, sv_i Jg7_s0), (2, sv_i vu17)]) (st' := [sv_i 12, sv_i 1, sv_r a, sv_i vu17, sv_r v950]) rfl ?_
          refine st_cv C (index := 252) (k := 2) (rest := [sv_i vu17, sv_r v950]) (ci := 10) (r := (RX11, TX11, 47)) (by decide +kernel) (sf_X11_takeNumber l g A ty σ33 hok34 hTA hIu35 a k_a (1) ⟨by omega, by omega⟩ (12) ⟨by omega, by omega⟩ (n18) ⟨by omega, by omega⟩ (c1u35) ⟨by omega, by omega⟩ (c2u35) ⟨by omega, by omega⟩ (chu35) ⟨by omega, by omega⟩ t36 e19u35 e20u35 e21u35 (by omega) (by omega) (by omega)) ⟨co_X11_takeNumber, in_X11, ⟨by decide, by decide, by decide +kernel⟩, Nat.le_of_ble_eq_true rfl, Nat.le_of_ble_eq_true rfl⟩ ml_X11_252 im_X11_takeNumber se_X11_takeNumber (by rw [k_a]; rfl) rfl rfl rfl (Nat.le_of_ble_eq_true rfl) ⟨Nat.zero_le _, Nat.zero_le _⟩ (fun r952 σ953 hpo951 hok954 => ?_) (fun xt955 σ953 hpo951 hok954 => st_out C hE hok954 ⟨hpo951.1, hpo951.2.1, hGu35.tr hpo951.2.2 (by decide) (by decide)⟩)
          obtain ⟨⟨vu956, rfl, hvu956, ivu956_0⟩, hIu956, hFu956, xu956⟩ := hpo951
          have hGu956 := hGu35.tr hFu956 (by decide) (by decide)
          have t957 : σ953 a 18 = n18 := (hFu956.at k_a (by decide) (by decide)).trans t36
          have t958 : σ953 a 0 = (v10 : Int) + 1 := (hFu956.at k_a (by decide) (by decide)).trans t37
          have t959 : σ953 v10 (4 : Int).toNat = v11 := (hFu956.atA kv10 (by decide) (by decide)).trans t38
          have t960 : σ953 a 5 = (v18 : Int) + 1 := (hFu956.at k_a (by decide) (by decide)).trans t39
          have t961 : σ953 v18 (vu17 : Int).toNat = Jg7_s0 := (hFu956.atA kv18 (by decide) (by decide)).trans t40
          have t962 : σ953 a 6 = (v950 : Int) + 1 := (hFu956.at k_a (by decide) (by decide)).trans ev950
          obtain ⟨c1u956, c2u956, chu956, e19u956, e20u956, e21u956, j1u956, j2u956, j3u956, j4u956⟩ := xu956
          have hp963 := ivu956_0 (by omega) (by omega)
          refine sv_same (st2 := [sv_i vu956, sv_i vu17, sv_r v950]) (lv2 := [(0, sv_r a), (1, sv_i Jg7_s0), (2, sv_i vu17)]) rfl rfl ?_
          refine sv_is C (n := 300) (by decide +kernel) (by rw [kv950]; rfl) (by decide) (by omega) (by omega) ⟨by omega, by omega⟩ (hTA _ (by rw [kv950]; decide)) hok954 (fun hok964 => ?_)
          have hI966 := hIu956.up (a := v950) (k := (vu17 : Int).toNat) (z := vu956) (by rw [kv950]; exact ⟨by omega, by omega⟩)
          have hF967 := hGu956.up (a := v950) (k := (vu17 : Int).toNat) (z := vu956) (Or.inl (by rw [kv950]; decide))
          generalize eσ965 : sv_up σ953 v950 (vu17 : Int).toNat vu956 = σ965 at hok964 hI966 hF967 ⊢
          have t968 : σ965 a 18 = n18 := by rw [← eσ965, sv_up_a (sv_ne k_a kv950 (by decide))]; exact t957
          have t969 : σ965 a 0 = (v10 : Int) + 1 := by rw [← eσ965, sv_up_a (sv_ne k_a kv950 (by decide))]; exact t958
          have t970 : σ965 v10 (4 : Int).toNat = v11 := by rw [← eσ965, sv_up_a (sv_ne kv10 kv950 (by decide))]; exact t959
          have t971 : σ965 a 5 = (v18 : Int) + 1 := by rw [← eσ965, sv_up_a (sv_ne k_a kv950 (by decide))]; exact t960
          have t972 : σ965 v18 (vu17 : Int).toNat = Jg7_s0 := by rw [← eσ965, sv_up_a (sv_ne kv18 kv950 (by decide))]; exact t961
          have t973 : σ965 a 6 = (v950 : Int) + 1 := by rw [← eσ965, sv_up_a (sv_ne k_a kv950 (by decide))]; exact t962
          have t974 : σ965 a 19 = c1u956 := by rw [← eσ965, sv_up_a (sv_ne k_a kv950 (by decide))]; exact e19u956
          have t975 : σ965 a 20 = c2u956 := by rw [← eσ965, sv_up_a (sv_ne k_a kv950 (by decide))]; exact e20u956
          have t976 : σ965 a 21 = chu956 := by rw [← eσ965, sv_up_a (sv_ne k_a kv950 (by decide))]; exact e21u956
          have t977 : σ965 v950 (vu17 : Int).toNat = vu956 := by rw [← eσ965]; exact sv_up_s _ _ _ _
          refine sv_go C.1 C.2.1 [(.aload_n 0, 1)] (pc' := 109) (by decide +kernel) rfl (lv' := [(0, sv_r a), (1, sv_i Jg7_s0), (2, sv_i vu17)]) (st' := [sv_r a]) rfl ?_
          obtain ⟨v978, ev978, kv978⟩ := hI966.ref (k := 7) k_a rfl
          refine sv_gf C (index := 69) (ci := 10) (k := 7) (r := (RX11, TX11, 47)) (v := sv_r v978) (by decide +kernel) (by rw [k_a]; rfl) rfl (by decide) fl_X11_69 (congrArg sv_a ev978) ?_
          refine sv_go C.1 C.2.1 [(.iload_n 2, 1), (.aload_n 0, 1), (.iconst 1, 1), (.aload_n 0, 1)] (pc' := 116) (by decide +kernel) rfl (lv' := [(0, sv_r a), (1, sv_i Jg7_s0), (2, sv_i vu17)]) (st' := [sv_r a, sv_i 1, sv_r a, sv_i vu17, sv_r v978]) rfl ?_
          refine sv_gf C (index := 66) (ci := 10) (k := 6) (r := (RX11, TX11, 47)) (v := sv_r v950) (by decide +kernel) (by rw [k_a]; rfl) rfl (by decide) fl_X11_66 (congrArg sv_a t973) ?_
          refine sv_go C.1 C.2.1 [(.iload_n 2, 1)] (pc' := 120) (by decide +kernel) rfl (lv' := [(0, sv_r a), (1, sv_i Jg7_s0), (2, sv_i vu17)]) (st' := [sv_i vu17, sv_r v950, sv_i 1, sv_r a, sv_i vu17, sv_r v978]) rfl ?_
          refine sv_ia C (n := 300) (by decide +kernel) (by rw [kv950]; rfl) (by decide) (by omega) (by omega) ?_
          rw [t977]
          refine sv_go C.1 C.2.1 [(.iconst 2, 1)] (pc' := 122) (by decide +kernel) rfl (lv' := [(0, sv_r a), (1, sv_i Jg7_s0), (2, sv_i vu17)]) (st' := [sv_i 2, sv_i vu956, sv_i 1, sv_r a, sv_i vu17, sv_r v978]) rfl ?_
          have J981 : ∀ (Jg980_s0 : Int), (28 ≤ Jg980_s0 ∧ Jg980_s0 ≤ 31) → st_E p l e { frames := 6, cells := 0, slots := 0, locals := 129 } s m args below meth c 7 g A ty (fun r σ' => (r = []) ∧ sv_inv sp_1 ty σ' ∧ sv_ofx [(10, 19), (10, 20), (10, 21), (10, 22), (10, 23), (10, 24)] [60, 65, 66, 67, 68, 69, 70, 71, 72, 73, 74] ty σ σ' ∧ ∃ c1 c2 hc : Int, σ' a 19 = c1 ∧ σ' a 20 = c2 ∧ σ' a 21 = hc ∧ (b1 ≤ c1 ∧ c1 ≤ c2 ∧ c2 ≤ n18) ∧ (0 ≤ hc ∧ hc ≤ 4) ∧ (hc = 0 ∨ c1 < c2) ∧ (hc ≠ 1 ∨ c2 ≤ c1 + 12)) (fun x σ' => ty x = 11 ∧ sv_inv sp_1 ty σ' ∧ sv_ofx [(10, 19), (10, 20), (10, 21), (10, 22), (10, 23), (10, 24)] [60, 65, 66, 67, 68, 69, 70, 71, 72, 73, 74] ty σ σ') σ965 140 [(0, sv_r a), (2, sv_i vu17)] [sv_i Jg980_s0, sv_i 1, sv_r a, sv_i vu17, sv_r v978] := by
            intro Jg980_s0 hJg980_s0
            refine st_cv C (index := 252) (k := 2) (rest := [sv_i vu17, sv_r v978]) (ci := 10) (r := (RX11, TX11, 47)) (by decide +kernel) (sf_X11_takeNumber l g A ty σ965 hok964 hTA hI966 a k_a (1) ⟨by omega, by omega⟩ (Jg980_s0) ⟨by omega, by omega⟩ (n18) ⟨by omega, by omega⟩ (c1u956) ⟨by omega, by omega⟩ (c2u956) ⟨by omega, by omega⟩ (chu956) ⟨by omega, by omega⟩ t968 t974 t975 t976 (by omega) (by omega) (by omega)) ⟨co_X11_takeNumber, in_X11, ⟨by decide, by decide, by decide +kernel⟩, Nat.le_of_ble_eq_true rfl, Nat.le_of_ble_eq_true rfl⟩ ml_X11_252 im_X11_takeNumber se_X11_takeNumber (by rw [k_a]; rfl) rfl rfl rfl (Nat.le_of_ble_eq_true rfl) ⟨Nat.zero_le _, Nat.zero_le _⟩ (fun r983 σ984 hpo982 hok985 => ?_) (fun xt986 σ984 hpo982 hok985 => st_out C hE hok985 ⟨hpo982.1, hpo982.2.1, hF967.tr hpo982.2.2 (by decide) (by decide)⟩)
            obtain ⟨⟨vu987, rfl, hvu987, ivu987_0⟩, hIu987, hFu987, xu987⟩ := hpo982
            have hGu987 := hF967.tr hFu987 (by decide) (by decide)
            have t988 : σ984 a 18 = n18 := (hFu987.at k_a (by decide) (by decide)).trans t968
            have t989 : σ984 a 0 = (v10 : Int) + 1 := (hFu987.at k_a (by decide) (by decide)).trans t969
            have t990 : σ984 v10 (4 : Int).toNat = v11 := (hFu987.atA kv10 (by decide) (by decide)).trans t970
            have t991 : σ984 a 5 = (v18 : Int) + 1 := (hFu987.at k_a (by decide) (by decide)).trans t971
            have t992 : σ984 v18 (vu17 : Int).toNat = Jg7_s0 := (hFu987.atA kv18 (by decide) (by decide)).trans t972
            have t993 : σ984 a 6 = (v950 : Int) + 1 := (hFu987.at k_a (by decide) (by decide)).trans t973
            have t994 : σ984 v950 (vu17 : Int).toNat = vu956 := (hFu987.atA kv950 (by decide) (by decide)).trans t977
            have t995 : σ984 a 7 = (v978 : Int) + 1 := (hFu987.at k_a (by decide) (by decide)).trans ev978
            obtain ⟨c1u987, c2u987, chu987, e19u987, e20u987, e21u987, j1u987, j2u987, j3u987, j4u987⟩ := xu987
            have hp996 := ivu987_0 (by omega) (by omega)
            refine sv_same (st2 := [sv_i vu987, sv_i vu17, sv_r v978]) (lv2 := [(0, sv_r a), (2, sv_i vu17)]) rfl rfl ?_
            refine sv_is C (n := 300) (by decide +kernel) (by rw [kv978]; rfl) (by decide) (by omega) (by omega) ⟨by omega, by omega⟩ (hTA _ (by rw [kv978]; decide)) hok985 (fun hok997 => ?_)
            have hI999 := hIu987.up (a := v978) (k := (vu17 : Int).toNat) (z := vu987) (by rw [kv978]; exact ⟨by omega, by omega⟩)
            have hF1000 := hGu987.up (a := v978) (k := (vu17 : Int).toNat) (z := vu987) (Or.inl (by rw [kv978]; decide))
            generalize eσ998 : sv_up σ984 v978 (vu17 : Int).toNat vu987 = σ998 at hok997 hI999 hF1000 ⊢
            have t1001 : σ998 a 18 = n18 := by rw [← eσ998, sv_up_a (sv_ne k_a kv978 (by decide))]; exact t988
            have t1002 : σ998 a 0 = (v10 : Int) + 1 := by rw [← eσ998, sv_up_a (sv_ne k_a kv978 (by decide))]; exact t989
            have t1003 : σ998 v10 (4 : Int).toNat = v11 := by rw [← eσ998, sv_up_a (sv_ne kv10 kv978 (by decide))]; exact t990
            have t1004 : σ998 a 5 = (v18 : Int) + 1 := by rw [← eσ998, sv_up_a (sv_ne k_a kv978 (by decide))]; exact t991
            have t1005 : σ998 v18 (vu17 : Int).toNat = Jg7_s0 := by rw [← eσ998, sv_up_a (sv_ne kv18 kv978 (by decide))]; exact t992
            have t1006 : σ998 a 6 = (v950 : Int) + 1 := by rw [← eσ998, sv_up_a (sv_ne k_a kv978 (by decide))]; exact t993
            have t1007 : σ998 v950 (vu17 : Int).toNat = vu956 := by rw [← eσ998, sv_up_a (sv_ne kv950 kv978 (by decide))]; exact t994
            have t1008 : σ998 a 7 = (v978 : Int) + 1 := by rw [← eσ998, sv_up_a (sv_ne k_a kv978 (by decide))]; exact t995
            have t1009 : σ998 a 19 = c1u987 := by rw [← eσ998, sv_up_a (sv_ne k_a kv978 (by decide))]; exact e19u987
            have t1010 : σ998 a 20 = c2u987 := by rw [← eσ998, sv_up_a (sv_ne k_a kv978 (by decide))]; exact e20u987
            have t1011 : σ998 a 21 = chu987 := by rw [← eσ998, sv_up_a (sv_ne k_a kv978 (by decide))]; exact e21u987
            have t1012 : σ998 v978 (vu17 : Int).toNat = vu987 := by rw [← eσ998]; exact sv_up_s _ _ _ _
            refine sv_goto C.1 C.2.1 (off := 85) (tgt := 229) (by decide +kernel) (by decide) ?_
            exact J44 v950 v978 c1u987 c2u987 chu987 σ998 kv950 kv978 ⟨by omega, by omega⟩ ⟨by omega, by omega⟩ ⟨by omega, by omega⟩ hok997 hI999 hF1000 t1001 t1002 t1003 t1004 t1005 t1006 t1008 t1009 t1010 t1011 (by omega)
          refine sv_icmp C.1 C.2.1 (cnd := .ne) (off := 8) (tgt := 130) (by decide +kernel) (by decide) ⟨by omega, by omega⟩ ⟨by omega, by omega⟩ (fun (h979 : vu956 ≠ 2) => ?_) (fun (h979 : ¬ (vu956 ≠ 2)) => ?_)
          · refine sv_go C.1 C.2.1 [(.iconst 1, 1), (.aload_n 0, 1)] (pc' := 132) (by decide +kernel) rfl (lv' := [(0, sv_r a), (1, sv_i Jg7_s0), (2, sv_i vu17)]) (st' := [sv_r a, sv_i 1, sv_i 1, sv_r a, sv_i vu17, sv_r v978]) rfl ?_
            refine sv_gf C (index := 66) (ci := 10) (k := 6) (r := (RX11, TX11, 47)) (v := sv_r v950) (by decide +kernel) (by rw [k_a]; rfl) rfl (by decide) fl_X11_66 (congrArg sv_a t973) ?_
            refine sv_go C.1 C.2.1 [(.iload_n 2, 1)] (pc' := 136) (by decide +kernel) rfl (lv' := [(0, sv_r a), (1, sv_i Jg7_s0), (2, sv_i vu17)]) (st' := [sv_i vu17, sv_r v950, sv_i 1, sv_i 1, sv_r a, sv_i vu17, sv_r v978]) rfl ?_
            refine sv_ia C (n := 300) (by decide +kernel) (by rw [kv950]; rfl) (by decide) (by omega) (by omega) ?_
            rw [t977]
            refine sv_cs C (index := 24) (k := 2) (rest := [sv_i 1, sv_r a, sv_i vu17, sv_r v978]) (by decide +kernel) (ct_X11_monthDays l g A ty σ965 hok964 (1) ⟨by omega, by omega⟩ (vu956) ⟨by omega, by omega⟩) ⟨co_X11_monthDays, in_X11, ⟨by decide, by decide, by decide +kernel⟩, Nat.le_of_ble_eq_true rfl, Nat.le_of_ble_eq_true rfl⟩ ml_X11_24 st_X11_monthDays rfl rfl (Nat.le_of_ble_eq_true rfl) ⟨Nat.zero_le _, Nat.zero_le _⟩ (fun r1014 σ1015 hpo1013 hok1016 => ?_)
            obtain ⟨rfl, rfl⟩ := hpo1013
            have hn1018 := dy_md_in 1 vu956
            refine sv_same (st2 := [sv_i (dy_md 1 vu956), sv_i 1, sv_r a, sv_i vu17, sv_r v978]) (lv2 := [(0, sv_r a), (1, sv_i Jg7_s0), (2, sv_i vu17)]) rfl rfl ?_
            refine sv_pick [0, 2] (lv2 := [(0, sv_r a), (2, sv_i vu17)]) rfl ?_
            exact J981 (dy_md 1 vu956) ⟨by omega, by omega⟩
          · refine sv_go C.1 C.2.1 [(.bipush 29, 2)] (pc' := 127) (by decide +kernel) rfl (lv' := [(0, sv_r a), (1, sv_i Jg7_s0), (2, sv_i vu17)]) (st' := [sv_i 29, sv_i 1, sv_r a, sv_i vu17, sv_r v978]) rfl ?_
            refine sv_goto C.1 C.2.1 (off := 13) (tgt := 140) (by decide +kernel) (by decide) ?_
            refine sv_pick [0, 2] (lv2 := [(0, sv_r a), (2, sv_i vu17)]) rfl ?_
            exact J981 29 ⟨by omega, by omega⟩
      · refine sv_go C.1 C.2.1 [(.aload_n 0, 1), (.iconst 4, 1)] (pc' := 65) (by decide +kernel) rfl (lv' := [(0, sv_r a), (1, sv_i Jg7_s0)]) (st' := [sv_i 4, sv_r a]) rfl ?_
        refine sv_cv C (index := 225) (k := 1) (rest := []) (ci := 10) (r := (RX11, TX11, 47)) (by decide +kernel) (sf_X11_wrong l g A ty σ hok4 hTA hI a k_a (4) ⟨by omega, by omega⟩) ⟨co_X11_wrong, in_X11, ⟨by decide, by decide, by decide +kernel⟩, Nat.le_of_ble_eq_true rfl, Nat.le_of_ble_eq_true rfl⟩ ml_X11_225 im_X11_wrong se_X11_wrong (by rw [k_a]; rfl) rfl rfl rfl (Nat.le_of_ble_eq_true rfl) ⟨Nat.zero_le _, Nat.zero_le _⟩ (fun r1020 σ1021 hpo1019 hok1022 => ?_)
        obtain ⟨⟨qu1023, rfl, kqu1023⟩, hIu1023, hFu1023⟩ := hpo1019
        have hGu1023 := hF.tr hFu1023 (by decide) (by decide)
        have t1024 : σ1021 a 18 = n18 := (hFu1023.at k_a (by decide) (by decide)).trans e18
        have t1025 : σ1021 a 19 = b1 := (hFu1023.at k_a (by decide) (by decide)).trans e19
        have t1026 : σ1021 a 20 = b2 := (hFu1023.at k_a (by decide) (by decide)).trans e20
        have t1027 : σ1021 a 21 = hh := (hFu1023.at k_a (by decide) (by decide)).trans e21
        have t1028 : σ1021 a 0 = (v10 : Int) + 1 := (hFu1023.at k_a (by decide) (by decide)).trans ev10
        have t1029 : σ1021 v10 (4 : Int).toNat = v11 := (hFu1023.atA kv10 (by decide) (by decide)).trans ev11
        refine sv_same (st2 := [sv_r qu1023]) (lv2 := [(0, sv_r a), (1, sv_i Jg7_s0)]) rfl rfl ?_
        exact st_throw C hE (by decide +kernel) hok1022 ⟨kqu1023, hIu1023, hGu1023⟩
    · refine sv_go C.1 C.2.1 [(.aload_n 0, 1), (.iconst 1, 1)] (pc' := 48) (by decide +kernel) rfl (lv' := [(0, sv_r a), (1, sv_i Jg7_s0)]) (st' := [sv_i 1, sv_r a]) rfl ?_
      refine sv_cv C (index := 225) (k := 1) (rest := []) (ci := 10) (r := (RX11, TX11, 47)) (by decide +kernel) (sf_X11_wrong l g A ty σ hok4 hTA hI a k_a (1) ⟨by omega, by omega⟩) ⟨co_X11_wrong, in_X11, ⟨by decide, by decide, by decide +kernel⟩, Nat.le_of_ble_eq_true rfl, Nat.le_of_ble_eq_true rfl⟩ ml_X11_225 im_X11_wrong se_X11_wrong (by rw [k_a]; rfl) rfl rfl rfl (Nat.le_of_ble_eq_true rfl) ⟨Nat.zero_le _, Nat.zero_le _⟩ (fun r1031 σ1032 hpo1030 hok1033 => ?_)
      obtain ⟨⟨qu1034, rfl, kqu1034⟩, hIu1034, hFu1034⟩ := hpo1030
      have hGu1034 := hF.tr hFu1034 (by decide) (by decide)
      have t1035 : σ1032 a 18 = n18 := (hFu1034.at k_a (by decide) (by decide)).trans e18
      have t1036 : σ1032 a 19 = b1 := (hFu1034.at k_a (by decide) (by decide)).trans e19
      have t1037 : σ1032 a 20 = b2 := (hFu1034.at k_a (by decide) (by decide)).trans e20
      have t1038 : σ1032 a 21 = hh := (hFu1034.at k_a (by decide) (by decide)).trans e21
      refine sv_same (st2 := [sv_r qu1034]) (lv2 := [(0, sv_r a), (1, sv_i Jg7_s0)]) rfl rfl ?_
      exact st_throw C hE (by decide +kernel) hok1033 ⟨kqu1034, hIu1034, hGu1034⟩
  refine sv_if C.1 C.2.1 (cnd := .eq) (off := 7) (tgt := 13) (by decide +kernel) (by decide) ⟨by omega, by omega⟩ (fun (h6 : vu5 = 0) => ?_) (fun (h6 : ¬ (vu5 = 0)) => ?_)
  · refine sv_go C.1 C.2.1 [(.aload_n 0, 1)] (pc' := 14) (by decide +kernel) rfl (lv' := [(0, sv_r a)]) (st' := [sv_r a]) rfl ?_
    refine sq_ldc C (index := 212) (tx := "moved") 16 (by decide) rfl (by decide +kernel) ?_
    refine sv_cv C (index := 208) (k := 1) (rest := []) (ci := 10) (r := (RX11, TX11, 47)) (by decide +kernel) (sf_X11_is l g A ty σ hok4 hTA hI a k_a 16 (by decide) (n18) ⟨by omega, by omega⟩ (b1) ⟨by omega, by omega⟩ (b2) ⟨by omega, by omega⟩ (hh) ⟨by omega, by omega⟩ e18 e19 e20 e21 (by omega) (by omega) (by omega)) ⟨co_X11_is, in_X11, ⟨by decide, by decide, by decide +kernel⟩, Nat.le_of_ble_eq_true rfl, Nat.le_of_ble_eq_true rfl⟩ ml_X11_208 im_X11_is se_X11_is (by rw [k_a]; rfl) rfl rfl rfl (Nat.le_of_ble_eq_true rfl) ⟨Nat.zero_le _, Nat.zero_le _⟩ (fun r1040 σ1041 hpo1039 hok1042 => ?_)
    obtain ⟨rfl, ⟨vu1043, rfl, hvu1043, ivu1043_0⟩⟩ := hpo1039
    refine sv_same (st2 := [sv_i vu1043]) (lv2 := [(0, sv_r a)]) rfl rfl ?_
    refine sv_if C.1 C.2.1 (cnd := .eq) (off := 7) (tgt := 26) (by decide +kernel) (by decide) ⟨by omega, by omega⟩ (fun (h1044 : vu1043 = 0) => ?_) (fun (h1044 : ¬ (vu1043 = 0)) => ?_)
    · refine sv_go C.1 C.2.1 [(.aload_n 0, 1)] (pc' := 27) (by decide +kernel) rfl (lv' := [(0, sv_r a)]) (st' := [sv_r a]) rfl ?_
      refine sq_ldc C (index := 214) (tx := "sunday") 17 (by decide) rfl (by decide +kernel) ?_
      refine sv_cv C (index := 208) (k := 1) (rest := []) (ci := 10) (r := (RX11, TX11, 47)) (by decide +kernel) (sf_X11_is l g A ty σ hok1042 hTA hI a k_a 17 (by decide) (n18) ⟨by omega, by omega⟩ (b1) ⟨by omega, by omega⟩ (b2) ⟨by omega, by omega⟩ (hh) ⟨by omega, by omega⟩ e18 e19 e20 e21 (by omega) (by omega) (by omega)) ⟨co_X11_is, in_X11, ⟨by decide, by decide, by decide +kernel⟩, Nat.le_of_ble_eq_true rfl, Nat.le_of_ble_eq_true rfl⟩ ml_X11_208 im_X11_is se_X11_is (by rw [k_a]; rfl) rfl rfl rfl (Nat.le_of_ble_eq_true rfl) ⟨Nat.zero_le _, Nat.zero_le _⟩ (fun r1046 σ1047 hpo1045 hok1048 => ?_)
      obtain ⟨rfl, ⟨vu1049, rfl, hvu1049, ivu1049_0⟩⟩ := hpo1045
      refine sv_same (st2 := [sv_i vu1049]) (lv2 := [(0, sv_r a)]) rfl rfl ?_
      refine sv_if C.1 C.2.1 (cnd := .eq) (off := 7) (tgt := 39) (by decide +kernel) (by decide) ⟨by omega, by omega⟩ (fun (h1050 : vu1049 = 0) => ?_) (fun (h1050 : ¬ (vu1049 = 0)) => ?_)
      · refine sv_go C.1 C.2.1 [(.iconst (-1), 1)] (pc' := 40) (by decide +kernel) rfl (lv' := [(0, sv_r a)]) (st' := [sv_i ((-1))]) rfl ?_
        exact J8 ((-1)) ⟨by omega, by omega⟩
      · have hp1051 := ivu1049_0 (by omega) (by omega)
        refine sv_go C.1 C.2.1 [(.iconst 2, 1)] (pc' := 36) (by decide +kernel) rfl (lv' := [(0, sv_r a)]) (st' := [sv_i 2]) rfl ?_
        refine sv_goto C.1 C.2.1 (off := 4) (tgt := 40) (by decide +kernel) (by decide) ?_
        exact J8 2 ⟨by omega, by omega⟩
    · have hp1052 := ivu1043_0 (by omega) (by omega)
      refine sv_go C.1 C.2.1 [(.iconst 1, 1)] (pc' := 23) (by decide +kernel) rfl (lv' := [(0, sv_r a)]) (st' := [sv_i 1]) rfl ?_
      refine sv_goto C.1 C.2.1 (off := 17) (tgt := 40) (by decide +kernel) (by decide) ?_
      exact J8 1 ⟨by omega, by omega⟩
  · have hp1053 := ivu5_0 (by omega) (by omega)
    refine sv_go C.1 C.2.1 [(.iconst 0, 1)] (pc' := 10) (by decide +kernel) rfl (lv' := [(0, sv_r a)]) (st' := [sv_i 0]) rfl ?_
    refine sv_goto C.1 C.2.1 (off := 30) (tgt := 40) (by decide +kernel) (by decide) ?_
    exact J8 0 ⟨by omega, by omega⟩

theorem ml_X11_255 : Cond.methodLink RX11 255 yX11_readFeast ∈ lw_good := sv_mem 1313 (by decide +kernel) rfl
theorem co_X11_readFeast : Cond.code yX11_readFeast cX11_readFeast 7 none ∈ lw_good := sv_mem 1316 (by decide +kernel) rfl
theorem im_X11_readFeast : Cond.instanceMethod yX11_readFeast ∈ lw_good := sv_mem 1315 (by decide +kernel) rfl
theorem se_X11_readFeast : Cond.selects RX11 yX11_readFeast yX11_readFeast ∈ lw_good := sv_mem 53 (by decide +kernel) rfl
theorem fl_X11_109 : Cond.fieldLink RX11 109 "SaintsRoadModel" "hasWax" "[Z" ∈ lw_good := sv_mem 1131 (by decide +kernel) rfl
theorem fl_X11_243 : Cond.fieldLink RX11 243 "SaintsRoadModel" "hasLent" "Z" ∈ lw_good := sv_mem 1130 (by decide +kernel) rfl
theorem fl_X11_239 : Cond.fieldLink RX11 239 "SaintsRoadModel" "hasYield" "Z" ∈ lw_good := sv_mem 1129 (by decide +kernel) rfl
set_option maxHeartbeats 4000000 in
set_option maxRecDepth 100000 in
theorem sf_X11_readLine (l : Launch) (g : sv_G) (A : Nat → Prop) (ty : Nat → Nat) (σ : Nat → Nat → Int) (hok : sv_ok ty σ) (hTA : ∀ q, ty q ≠ 0 → A q) (hI : sv_inv sp_1 ty σ) (a : Nat) (k_a : ty a = 10) (n18 : Int) (h_n18 : 0 ≤ n18 ∧ n18 ≤ 4000) (b1 : Int) (h_b1 : 0 ≤ b1 ∧ b1 ≤ 4000) (b2 : Int) (h_b2 : 0 ≤ b2 ∧ b2 ≤ 4000) (hh : Int) (h_hh : 0 ≤ hh ∧ hh ≤ 4) (e18 : σ a 18 = n18) (e19 : σ a 19 = b1) (e20 : σ a 20 = b2) (e21 : σ a 21 = hh) (hJ1 : b1 ≤ b2 ∧ b2 ≤ n18) (hJ2 : hh = 0 ∨ b1 < b2) (hJ3 : hh ≠ 1 ∨ b2 ≤ b1 + 12) : st_M l yX11_readLine cX11_readLine 2 none { frames := 7, cells := 0, slots := 0, locals := 155 } g A ty σ [sv_r a] (fun r σ' => (r = []) ∧ sv_inv sp_1 ty σ' ∧ sv_ofx [(10, 19), (10, 20), (10, 21), (10, 22), (10, 23), (10, 24), (10, 25), (10, 26)] [60, 61, 62, 63, 64, 65, 66, 67, 68, 69, 70, 71, 72, 73, 74, 87] ty σ σ' ∧ ∃ c1 c2 hc : Int, σ' a 19 = c1 ∧ σ' a 20 = c2 ∧ σ' a 21 = hc ∧ (b1 ≤ c1 ∧ c1 ≤ c2 ∧ c2 ≤ n18) ∧ (0 ≤ hc ∧ hc ≤ 4) ∧ (hc = 0 ∨ c1 < c2) ∧ (hc ≠ 1 ∨ c2 ≤ c1 + 12)) (fun x σ' => ty x = 11 ∧ sv_inv sp_1 ty σ' ∧ sv_ofx [(10, 19), (10, 20), (10, 21), (10, 22), (10, 23), (10, 24), (10, 25), (10, 26)] [60, 61, 62, 63, 64, 65, 66, 67, 68, 69, 70, 71, 72, 73, 74, 87] ty σ σ') := by
  refine st_enter (by decide) (Nat.le_of_ble_eq_true rfl) ?_
  intro p e s m args below meth c C hr hE
  have C : sv_C g A RX11 cX11_readLine 2 p s m args meth c := C
  have hr : meth.sig.returnType = none := hr
  have hF : sv_ofx [(10, 19), (10, 20), (10, 21), (10, 22), (10, 23), (10, 24), (10, 25), (10, 26)] [60, 61, 62, 63, 64, 65, 66, 67, 68, 69, 70, 71, 72, 73, 74, 87] ty σ σ := sv_ofx.rf
  refine sv_same (st2 := []) (lv2 := [(0, sv_r a)]) rfl rfl ?_
  refine sv_go C.1 C.2.1 [(.aload_n 0, 1)] (pc' := 1) (by decide +kernel) rfl (lv' := [(0, sv_r a)]) (st' := [sv_r a]) rfl ?_
  refine sq_ldc C (index := 221) (tx := "yield") 12 (by decide) rfl (by decide +kernel) ?_
  refine sv_cv C (index := 208) (k := 1) (rest := []) (ci := 10) (r := (RX11, TX11, 47)) (by decide +kernel) (sf_X11_is l g A ty σ hok hTA hI a k_a 12 (by decide) (n18) ⟨by omega, by omega⟩ (b1) ⟨by omega, by omega⟩ (b2) ⟨by omega, by omega⟩ (hh) ⟨by omega, by omega⟩ e18 e19 e20 e21 (by omega) (by omega) (by omega)) ⟨co_X11_is, in_X11, ⟨by decide, by decide, by decide +kernel⟩, Nat.le_of_ble_eq_true rfl, Nat.le_of_ble_eq_true rfl⟩ ml_X11_208 im_X11_is se_X11_is (by rw [k_a]; rfl) rfl rfl rfl (Nat.le_of_ble_eq_true rfl) ⟨Nat.zero_le _, Nat.zero_le _⟩ (fun r2 σ3 hpo1 hok4 => ?_)
  obtain ⟨rfl, ⟨vu5, rfl, hvu5, ivu5_0⟩⟩ := hpo1
  refine sv_same (st2 := [sv_i vu5]) (lv2 := [(0, sv_r a)]) rfl rfl ?_
  refine sv_if C.1 C.2.1 (cnd := .eq) (off := 54) (tgt := 60) (by decide +kernel) (by decide) ⟨by omega, by omega⟩ (fun (h6 : vu5 = 0) => ?_) (fun (h6 : ¬ (vu5 = 0)) => ?_)
  · refine sv_go C.1 C.2.1 [(.aload_n 0, 1)] (pc' := 61) (by decide +kernel) rfl (lv' := [(0, sv_r a)]) (st' := [sv_r a]) rfl ?_
    refine sq_ldc C (index := 224) (tx := "lent") 13 (by decide) rfl (by decide +kernel) ?_
    refine sv_cv C (index := 208) (k := 1) (rest := []) (ci := 10) (r := (RX11, TX11, 47)) (by decide +kernel) (sf_X11_is l g A ty σ hok4 hTA hI a k_a 13 (by decide) (n18) ⟨by omega, by omega⟩ (b1) ⟨by omega, by omega⟩ (b2) ⟨by omega, by omega⟩ (hh) ⟨by omega, by omega⟩ e18 e19 e20 e21 (by omega) (by omega) (by omega)) ⟨co_X11_is, in_X11, ⟨by decide, by decide, by decide +kernel⟩, Nat.le_of_ble_eq_true rfl, Nat.le_of_ble_eq_true rfl⟩ ml_X11_208 im_X11_is se_X11_is (by rw [k_a]; rfl) rfl rfl rfl (Nat.le_of_ble_eq_true rfl) ⟨Nat.zero_le _, Nat.zero_le _⟩ (fun r8 σ9 hpo7 hok10 => ?_)
    obtain ⟨rfl, ⟨vu11, rfl, hvu11, ivu11_0⟩⟩ := hpo7
    refine sv_same (st2 := [sv_i vu11]) (lv2 := [(0, sv_r a)]) rfl rfl ?_
    refine sv_if C.1 C.2.1 (cnd := .eq) (off := 41) (tgt := 107) (by decide +kernel) (by decide) ⟨by omega, by omega⟩ (fun (h12 : vu11 = 0) => ?_) (fun (h12 : ¬ (vu11 = 0)) => ?_)
    · refine sv_go C.1 C.2.1 [(.aload_n 0, 1)] (pc' := 108) (by decide +kernel) rfl (lv' := [(0, sv_r a)]) (st' := [sv_r a]) rfl ?_
      refine sq_ldc C (index := 223) (tx := "wax") 14 (by decide) rfl (by decide +kernel) ?_
      refine sv_cv C (index := 208) (k := 1) (rest := []) (ci := 10) (r := (RX11, TX11, 47)) (by decide +kernel) (sf_X11_is l g A ty σ hok10 hTA hI a k_a 14 (by decide) (n18) ⟨by omega, by omega⟩ (b1) ⟨by omega, by omega⟩ (b2) ⟨by omega, by omega⟩ (hh) ⟨by omega, by omega⟩ e18 e19 e20 e21 (by omega) (by omega) (by omega)) ⟨co_X11_is, in_X11, ⟨by decide, by decide, by decide +kernel⟩, Nat.le_of_ble_eq_true rfl, Nat.le_of_ble_eq_true rfl⟩ ml_X11_208 im_X11_is se_X11_is (by rw [k_a]; rfl) rfl rfl rfl (Nat.le_of_ble_eq_true rfl) ⟨Nat.zero_le _, Nat.zero_le _⟩ (fun r14 σ15 hpo13 hok16 => ?_)
      obtain ⟨rfl, ⟨vu17, rfl, hvu17, ivu17_0⟩⟩ := hpo13
      refine sv_same (st2 := [sv_i vu17]) (lv2 := [(0, sv_r a)]) rfl rfl ?_
      refine sv_if C.1 C.2.1 (cnd := .eq) (off := 61) (tgt := 174) (by decide +kernel) (by decide) ⟨by omega, by omega⟩ (fun (h18 : vu17 = 0) => ?_) (fun (h18 : ¬ (vu17 = 0)) => ?_)
      · refine sv_go C.1 C.2.1 [(.aload_n 0, 1)] (pc' := 175) (by decide +kernel) rfl (lv' := [(0, sv_r a)]) (st' := [sv_r a]) rfl ?_
        refine st_cv C (index := 255) (k := 0) (rest := []) (ci := 10) (r := (RX11, TX11, 47)) (by decide +kernel) (sf_X11_readFeast l g A ty σ hok16 hTA hI a k_a (n18) ⟨by omega, by omega⟩ (b1) ⟨by omega, by omega⟩ (b2) ⟨by omega, by omega⟩ (hh) ⟨by omega, by omega⟩ e18 e19 e20 e21 (by omega) (by omega) (by omega)) ⟨co_X11_readFeast, in_X11, ⟨by decide, by decide, by decide +kernel⟩, Nat.le_of_ble_eq_true rfl, Nat.le_of_ble_eq_true rfl⟩ ml_X11_255 im_X11_readFeast se_X11_readFeast (by rw [k_a]; rfl) rfl rfl rfl (Nat.le_of_ble_eq_true rfl) ⟨Nat.zero_le _, Nat.zero_le _⟩ (fun r20 σ21 hpo19 hok22 => ?_) (fun xt23 σ21 hpo19 hok22 => st_out C hE hok22 ⟨hpo19.1, hpo19.2.1, hF.tr hpo19.2.2 (by decide) (by decide)⟩)
        obtain ⟨rfl, hIu24, hFu24, xu24⟩ := hpo19
        have hGu24 := hF.tr hFu24 (by decide) (by decide)
        have t25 : σ21 a 18 = n18 := (hFu24.at k_a (by decide) (by decide)).trans e18
        obtain ⟨c1u24, c2u24, chu24, e19u24, e20u24, e21u24, j1u24, j2u24, j3u24, j4u24⟩ := xu24
        refine sv_same (st2 := []) (lv2 := [(0, sv_r a)]) rfl rfl ?_
        exact st_of (sv_vret C hr (by decide +kernel) hok22 (⟨rfl, hIu24, hGu24, _, _, _, e19u24, e20u24, e21u24, by omega, by omega, by omega, by omega⟩))
      · have hp26 := ivu17_0 (by omega) (by omega)
        refine sv_go C.1 C.2.1 [(.aload_n 0, 1)] (pc' := 117) (by decide +kernel) rfl (lv' := [(0, sv_r a)]) (st' := [sv_r a]) rfl ?_
        refine sv_cv C (index := 229) (k := 0) (rest := []) (ci := 10) (r := (RX11, TX11, 47)) (by decide +kernel) (sf_X11_scan l g A ty σ hok16 hTA hI a k_a (n18) ⟨by omega, by omega⟩ (b2) ⟨by omega, by omega⟩ e18 e20 (by omega)) ⟨co_X11_scan, in_X11, ⟨by decide, by decide, by decide +kernel⟩, Nat.le_of_ble_eq_true rfl, Nat.le_of_ble_eq_true rfl⟩ ml_X11_229 im_X11_scan se_X11_scan (by rw [k_a]; rfl) rfl rfl rfl (Nat.le_of_ble_eq_true rfl) ⟨Nat.zero_le _, Nat.zero_le _⟩ (fun r28 σ29 hpo27 hok30 => ?_)
        obtain ⟨rfl, hIu31, hFu31, xu31⟩ := hpo27
        have hGu31 := hF.tr hFu31 (by decide) (by decide)
        have t32 : σ29 a 18 = n18 := (hFu31.at k_a (by decide) (by decide)).trans e18
        obtain ⟨c1u31, c2u31, chu31, e19u31, e20u31, e21u31, j1u31, j2u31, j3u31, j4u31⟩ := xu31
        refine sv_same (st2 := []) (lv2 := [(0, sv_r a)]) rfl rfl ?_
        refine sv_go C.1 C.2.1 [(.aload_n 0, 1), (.iconst 1, 1), (.bipush 8, 2)] (pc' := 124) (by decide +kernel) rfl (lv' := [(0, sv_r a)]) (st' := [sv_i 8, sv_i 1, sv_r a]) rfl ?_
        refine st_cv C (index := 232) (k := 2) (rest := []) (ci := 10) (r := (RX11, TX11, 47)) (by decide +kernel) (sf_X11_number l g A ty σ29 hok30 hTA hIu31 a k_a (1) ⟨by omega, by omega⟩ (8) ⟨by omega, by omega⟩ (n18) ⟨by omega, by omega⟩ (c1u31) ⟨by omega, by omega⟩ (c2u31) ⟨by omega, by omega⟩ (chu31) ⟨by omega, by omega⟩ t32 e19u31 e20u31 e21u31 (by omega) (by omega) (by omega)) ⟨co_X11_number, in_X11, ⟨by decide, by decide, by decide +kernel⟩, Nat.le_of_ble_eq_true rfl, Nat.le_of_ble_eq_true rfl⟩ ml_X11_232 im_X11_number se_X11_number (by rw [k_a]; rfl) rfl rfl rfl (Nat.le_of_ble_eq_true rfl) ⟨Nat.zero_le _, Nat.zero_le _⟩ (fun r34 σ35 hpo33 hok36 => ?_) (fun xt37 σ35 hpo33 hok36 => st_out C hE hok36 ⟨hpo33.1, hpo33.2.1, hGu31.tr hpo33.2.2 (by decide) (by decide)⟩)
        obtain ⟨⟨vu38, rfl, hvu38, ivu38_0⟩, hIu38, hFu38⟩ := hpo33
        have hGu38 := hGu31.tr hFu38 (by decide) (by decide)
        have t39 : σ35 a 18 = n18 := (hFu38.at k_a (by decide) (by decide)).trans t32
        have t40 : σ35 a 19 = c1u31 := (hFu38.at k_a (by decide) (by decide)).trans e19u31
        have t41 : σ35 a 20 = c2u31 := (hFu38.at k_a (by decide) (by decide)).trans e20u31
        have t42 : σ35 a 21 = chu31 := (hFu38.at k_a (by decide) (by decide)).trans e21u31
        have hp43 := ivu38_0 (by omega) (by omega)
        refine sv_same (st2 := [sv_i vu38]) (lv2 := [(0, sv_r a)]) rfl rfl ?_
        refine sv_go C.1 C.2.1 [(.istore_n 1, 1), (.aload_n 0, 1)] (pc' := 129) (by decide +kernel) rfl (lv' := [(0, sv_r a), (1, sv_i vu38)]) (st' := [sv_r a]) rfl ?_
        obtain ⟨v44, ev44, kv44⟩ := hIu38.ref (k := 27) k_a rfl
        refine sv_gf C (index := 109) (ci := 10) (k := 27) (r := (RX11, TX11, 47)) (v := sv_r v44) (by decide +kernel) (by rw [k_a]; rfl) rfl (by decide) fl_X11_109 (congrArg sv_a ev44) ?_
        refine sv_go C.1 C.2.1 [(.iload_n 1, 1)] (pc' := 133) (by decide +kernel) rfl (lv' := [(0, sv_r a), (1, sv_i vu38)]) (st' := [sv_i vu38, sv_r v44]) rfl ?_
        refine sv_za C (n := 9) (by decide +kernel) (by rw [kv44]; rfl) (by decide) (by omega) (by omega) ?_
        obtain ⟨v45, ev45, hv45⟩ := sv_rdez hok36 (a := v44) (k := (vu38 : Int).toNat) (n := 9) (by rw [kv44]; rfl) (by omega)
        rw [ev45]
        refine sv_if C.1 C.2.1 (cnd := .eq) (off := 9) (tgt := 143) (by decide +kernel) (by decide) ⟨by omega, by omega⟩ (fun (h46 : v45 = 0) => ?_) (fun (h46 : ¬ (v45 = 0)) => ?_)
        · refine sv_go C.1 C.2.1 [(.aload_n 0, 1)] (pc' := 144) (by decide +kernel) rfl (lv' := [(0, sv_r a), (1, sv_i vu38)]) (st' := [sv_r a]) rfl ?_
          refine sv_gf C (index := 109) (ci := 10) (k := 27) (r := (RX11, TX11, 47)) (v := sv_r v44) (by decide +kernel) (by rw [k_a]; rfl) rfl (by decide) fl_X11_109 (congrArg sv_a ev44) ?_
          refine sv_go C.1 C.2.1 [(.iload_n 1, 1), (.iconst 1, 1)] (pc' := 149) (by decide +kernel) rfl (lv' := [(0, sv_r a), (1, sv_i vu38)]) (st' := [sv_i 1, sv_i vu38, sv_r v44]) rfl ?_
          refine sv_zs C (n := 9) (by decide +kernel) (by rw [kv44]; rfl) (by decide) (by omega) (by omega) ⟨by omega, by omega⟩ (hTA _ (by rw [kv44]; decide)) hok36 (fun hok47 => ?_)
          have hI49 := hIu38.up (a := v44) (k := (vu38 : Int).toNat) (z := 1) (by rw [kv44]; exact trivial)
          have hF50 := hGu38.up (a := v44) (k := (vu38 : Int).toNat) (z := 1) (Or.inl (by rw [kv44]; decide))
          generalize eσ48 : sv_up σ35 v44 (vu38 : Int).toNat 1 = σ48 at hok47 hI49 hF50 ⊢
          have t51 : σ48 a 18 = n18 := by rw [← eσ48, sv_up_a (sv_ne k_a kv44 (by decide))]; exact t39
          have t52 : σ48 a 19 = c1u31 := by rw [← eσ48, sv_up_a (sv_ne k_a kv44 (by decide))]; exact t40
          have t53 : σ48 a 20 = c2u31 := by rw [← eσ48, sv_up_a (sv_ne k_a kv44 (by decide))]; exact t41
          have t54 : σ48 a 21 = chu31 := by rw [← eσ48, sv_up_a (sv_ne k_a kv44 (by decide))]; exact t42
          have t55 : σ48 a 27 = (v44 : Int) + 1 := by rw [← eσ48, sv_up_a (sv_ne k_a kv44 (by decide))]; exact ev44
          have t57 : σ48 v44 (vu38 : Int).toNat = 1 := by rw [← eσ48]; exact sv_up_s _ _ _ _
          refine sv_go C.1 C.2.1 [(.aload_n 0, 1)] (pc' := 151) (by decide +kernel) rfl (lv' := [(0, sv_r a), (1, sv_i vu38)]) (st' := [sv_r a]) rfl ?_
          refine sv_cv C (index := 229) (k := 0) (rest := []) (ci := 10) (r := (RX11, TX11, 47)) (by decide +kernel) (sf_X11_scan l g A ty σ48 hok47 hTA hI49 a k_a (n18) ⟨by omega, by omega⟩ (c2u31) ⟨by omega, by omega⟩ t51 t53 (by omega)) ⟨co_X11_scan, in_X11, ⟨by decide, by decide, by decide +kernel⟩, Nat.le_of_ble_eq_true rfl, Nat.le_of_ble_eq_true rfl⟩ ml_X11_229 im_X11_scan se_X11_scan (by rw [k_a]; rfl) rfl rfl rfl (Nat.le_of_ble_eq_true rfl) ⟨Nat.zero_le _, Nat.zero_le _⟩ (fun r59 σ60 hpo58 hok61 => ?_)
          obtain ⟨rfl, hIu62, hFu62, xu62⟩ := hpo58
          have hGu62 := hF50.tr hFu62 (by decide) (by decide)
          have t63 : σ60 a 18 = n18 := (hFu62.at k_a (by decide) (by decide)).trans t51
          have t64 : σ60 a 27 = (v44 : Int) + 1 := (hFu62.at k_a (by decide) (by decide)).trans t55
          have t65 : σ60 v44 (vu38 : Int).toNat = 1 := (hFu62.atA kv44 (by decide) (by decide)).trans t57
          obtain ⟨c1u62, c2u62, chu62, e19u62, e20u62, e21u62, j1u62, j2u62, j3u62, j4u62⟩ := xu62
          refine sv_same (st2 := []) (lv2 := [(0, sv_r a), (1, sv_i vu38)]) rfl rfl ?_
          refine sv_go C.1 C.2.1 [(.aload_n 0, 1)] (pc' := 155) (by decide +kernel) rfl (lv' := [(0, sv_r a), (1, sv_i vu38)]) (st' := [sv_r a]) rfl ?_
          obtain ⟨v66, ev66, kv66⟩ := hIu62.ref (k := 4) k_a rfl
          refine sv_gf C (index := 60) (ci := 10) (k := 4) (r := (RX11, TX11, 47)) (v := sv_r v66) (by decide +kernel) (by rw [k_a]; rfl) rfl (by decide) fl_X11_60 (congrArg sv_a ev66) ?_
          refine sv_go C.1 C.2.1 [(.bipush 36, 2), (.iload_n 1, 1), (.iadd, 1), (.aload_n 0, 1), (.iconst 0, 1), (.sipush 9999, 3)] (pc' := 167) (by decide +kernel) rfl (lv' := [(0, sv_r a), (1, sv_i vu38)]) (st' := [sv_i 9999, sv_i 0, sv_r a, sv_i (36 + vu38), sv_r v66]) rfl ?_
          refine st_cv C (index := 252) (k := 2) (rest := [sv_i (36 + vu38), sv_r v66]) (ci := 10) (r := (RX11, TX11, 47)) (by decide +kernel) (sf_X11_takeNumber l g A ty σ60 hok61 hTA hIu62 a k_a (0) ⟨by omega, by omega⟩ (9999) ⟨by omega, by omega⟩ (n18) ⟨by omega, by omega⟩ (c1u62) ⟨by omega, by omega⟩ (c2u62) ⟨by omega, by omega⟩ (chu62) ⟨by omega, by omega⟩ t63 e19u62 e20u62 e21u62 (by omega) (by omega) (by omega)) ⟨co_X11_takeNumber, in_X11, ⟨by decide, by decide, by decide +kernel⟩, Nat.le_of_ble_eq_true rfl, Nat.le_of_ble_eq_true rfl⟩ ml_X11_252 im_X11_takeNumber se_X11_takeNumber (by rw [k_a]; rfl) rfl rfl rfl (Nat.le_of_ble_eq_true rfl) ⟨Nat.zero_le _, Nat.zero_le _⟩ (fun r68 σ69 hpo67 hok70 => ?_) (fun xt71 σ69 hpo67 hok70 => st_out C hE hok70 ⟨hpo67.1, hpo67.2.1, hGu62.tr hpo67.2.2 (by decide) (by decide)⟩)
          obtain ⟨⟨vu72, rfl, hvu72, ivu72_0⟩, hIu72, hFu72, xu72⟩ := hpo67
          have hGu72 := hGu62.tr hFu72 (by decide) (by decide)
          have t73 : σ69 a 18 = n18 := (hFu72.at k_a (by decide) (by decide)).trans t63
          have t74 : σ69 a 27 = (v44 : Int) + 1 := (hFu72.at k_a (by decide) (by decide)).trans t64
          have t75 : σ69 v44 (vu38 : Int).toNat = 1 := (hFu72.atA kv44 (by decide) (by decide)).trans t65
          have t76 : σ69 a 4 = (v66 : Int) + 1 := (hFu72.at k_a (by decide) (by decide)).trans ev66
          obtain ⟨c1u72, c2u72, chu72, e19u72, e20u72, e21u72, j1u72, j2u72, j3u72, j4u72⟩ := xu72
          have hp77 := ivu72_0 (by omega) (by omega)
          refine sv_same (st2 := [sv_i vu72, sv_i (36 + vu38), sv_r v66]) (lv2 := [(0, sv_r a), (1, sv_i vu38)]) rfl rfl ?_
          refine sv_is C (n := 45) (by decide +kernel) (by rw [kv66]; rfl) (by decide) (by omega) (by omega) ⟨by omega, by omega⟩ (hTA _ (by rw [kv66]; decide)) hok70 (fun hok78 => ?_)
          have hI80 := hIu72.up (a := v66) (k := (36 + vu38 : Int).toNat) (z := vu72) (by rw [kv66]; exact trivial)
          have hF81 := hGu72.up (a := v66) (k := (36 + vu38 : Int).toNat) (z := vu72) (Or.inl (by rw [kv66]; decide))
          generalize eσ79 : sv_up σ69 v66 (36 + vu38 : Int).toNat vu72 = σ79 at hok78 hI80 hF81 ⊢
          have t82 : σ79 a 18 = n18 := by rw [← eσ79, sv_up_a (sv_ne k_a kv66 (by decide))]; exact t73
          have t83 : σ79 a 27 = (v44 : Int) + 1 := by rw [← eσ79, sv_up_a (sv_ne k_a kv66 (by decide))]; exact t74
          have t84 : σ79 v44 (vu38 : Int).toNat = 1 := by rw [← eσ79, sv_up_a (sv_ne kv44 kv66 (by decide))]; exact t75
          have t85 : σ79 a 4 = (v66 : Int) + 1 := by rw [← eσ79, sv_up_a (sv_ne k_a kv66 (by decide))]; exact t76
          have t86 : σ79 a 19 = c1u72 := by rw [← eσ79, sv_up_a (sv_ne k_a kv66 (by decide))]; exact e19u72
          have t87 : σ79 a 20 = c2u72 := by rw [← eσ79, sv_up_a (sv_ne k_a kv66 (by decide))]; exact e20u72
          have t88 : σ79 a 21 = chu72 := by rw [← eσ79, sv_up_a (sv_ne k_a kv66 (by decide))]; exact e21u72
          have t89 : σ79 v66 (36 + vu38 : Int).toNat = vu72 := by rw [← eσ79]; exact sv_up_s _ _ _ _
          refine sv_goto C.1 C.2.1 (off := 7) (tgt := 178) (by decide +kernel) (by decide) ?_
          exact st_of (sv_vret C hr (by decide +kernel) hok78 (⟨rfl, hI80, hF81, _, _, _, t86, t87, t88, by omega, by omega, by omega, by omega⟩))
        · refine sv_go C.1 C.2.1 [(.aload_n 0, 1), (.iconst 5, 1)] (pc' := 139) (by decide +kernel) rfl (lv' := [(0, sv_r a), (1, sv_i vu38)]) (st' := [sv_i 5, sv_r a]) rfl ?_
          refine sv_cv C (index := 225) (k := 1) (rest := []) (ci := 10) (r := (RX11, TX11, 47)) (by decide +kernel) (sf_X11_wrong l g A ty σ35 hok36 hTA hIu38 a k_a (5) ⟨by omega, by omega⟩) ⟨co_X11_wrong, in_X11, ⟨by decide, by decide, by decide +kernel⟩, Nat.le_of_ble_eq_true rfl, Nat.le_of_ble_eq_true rfl⟩ ml_X11_225 im_X11_wrong se_X11_wrong (by rw [k_a]; rfl) rfl rfl rfl (Nat.le_of_ble_eq_true rfl) ⟨Nat.zero_le _, Nat.zero_le _⟩ (fun r91 σ92 hpo90 hok93 => ?_)
          obtain ⟨⟨qu94, rfl, kqu94⟩, hIu94, hFu94⟩ := hpo90
          have hGu94 := hGu38.tr hFu94 (by decide) (by decide)
          have t95 : σ92 a 18 = n18 := (hFu94.at k_a (by decide) (by decide)).trans t39
          have t96 : σ92 a 19 = c1u31 := (hFu94.at k_a (by decide) (by decide)).trans t40
          have t97 : σ92 a 20 = c2u31 := (hFu94.at k_a (by decide) (by decide)).trans t41
          have t98 : σ92 a 21 = chu31 := (hFu94.at k_a (by decide) (by decide)).trans t42
          have t99 : σ92 a 27 = (v44 : Int) + 1 := (hFu94.at k_a (by decide) (by decide)).trans ev44
          have t100 : σ92 v44 (vu38 : Int).toNat = v45 := (hFu94.atA kv44 (by decide) (by decide)).trans ev45
          refine sv_same (st2 := [sv_r qu94]) (lv2 := [(0, sv_r a), (1, sv_i vu38)]) rfl rfl ?_
          exact st_throw C hE (by decide +kernel) hok93 ⟨kqu94, hIu94, hGu94⟩
    · have hp101 := ivu11_0 (by omega) (by omega)
      refine sv_go C.1 C.2.1 [(.aload_n 0, 1)] (pc' := 70) (by decide +kernel) rfl (lv' := [(0, sv_r a)]) (st' := [sv_r a]) rfl ?_
      obtain ⟨v102, ev102, hv102⟩ := sv_rdkz hok10 (a := a) (k := 26) (ci := 10) (r := (RX11, TX11, 47)) (by rw [k_a]; rfl) rfl (by decide) rfl
      refine sv_gf C (index := 243) (ci := 10) (k := 26) (r := (RX11, TX11, 47)) (v := sv_i v102) (by decide +kernel) (by rw [k_a]; rfl) rfl (by decide) fl_X11_243 (congrArg sv_i ev102) ?_
      refine sv_if C.1 C.2.1 (cnd := .eq) (off := 9) (tgt := 82) (by decide +kernel) (by decide) ⟨by omega, by omega⟩ (fun (h103 : v102 = 0) => ?_) (fun (h103 : ¬ (v102 = 0)) => ?_)
      · refine sv_go C.1 C.2.1 [(.aload_n 0, 1), (.iconst 1, 1)] (pc' := 84) (by decide +kernel) rfl (lv' := [(0, sv_r a)]) (st' := [sv_i 1, sv_r a]) rfl ?_
        refine sv_pf C (index := 243) (ci := 10) (k := 26) (r := (RX11, TX11, 47)) (z := 1) (by decide +kernel) (by rw [k_a]; rfl) rfl (by decide) rfl fl_X11_243 rfl (Or.inr (Or.inl rfl)) ⟨by omega, by omega⟩ (hTA _ (by rw [k_a]; decide)) hok10 (fun hok104 => ?_)
        have hI106 := hI.up (a := a) (k := 26) (z := 1) (by rw [k_a]; exact trivial)
        have hF107 := hF.up (a := a) (k := 26) (z := 1) (Or.inr (by rw [k_a]; decide))
        generalize eσ105 : sv_up σ a 26 1 = σ105 at hok104 hI106 hF107 ⊢
        have t108 : σ105 a 18 = n18 := by rw [← eσ105, sv_up_k (by decide)]; exact e18
        have t109 : σ105 a 19 = b1 := by rw [← eσ105, sv_up_k (by decide)]; exact e19
        have t110 : σ105 a 20 = b2 := by rw [← eσ105, sv_up_k (by decide)]; exact e20
        have t111 : σ105 a 21 = hh := by rw [← eσ105, sv_up_k (by decide)]; exact e21
        have t112 : σ105 a 26 = 1 := by rw [← eσ105]; exact sv_up_s _ _ _ _
        refine sv_go C.1 C.2.1 [(.aload_n 0, 1)] (pc' := 88) (by decide +kernel) rfl (lv' := [(0, sv_r a)]) (st' := [sv_r a]) rfl ?_
        refine sv_cv C (index := 229) (k := 0) (rest := []) (ci := 10) (r := (RX11, TX11, 47)) (by decide +kernel) (sf_X11_scan l g A ty σ105 hok104 hTA hI106 a k_a (n18) ⟨by omega, by omega⟩ (b2) ⟨by omega, by omega⟩ t108 t110 (by omega)) ⟨co_X11_scan, in_X11, ⟨by decide, by decide, by decide +kernel⟩, Nat.le_of_ble_eq_true rfl, Nat.le_of_ble_eq_true rfl⟩ ml_X11_229 im_X11_scan se_X11_scan (by rw [k_a]; rfl) rfl rfl rfl (Nat.le_of_ble_eq_true rfl) ⟨Nat.zero_le _, Nat.zero_le _⟩ (fun r114 σ115 hpo113 hok116 => ?_)
        obtain ⟨rfl, hIu117, hFu117, xu117⟩ := hpo113
        have hGu117 := hF107.tr hFu117 (by decide) (by decide)
        have t118 : σ115 a 18 = n18 := (hFu117.at k_a (by decide) (by decide)).trans t108
        have t119 : σ115 a 26 = 1 := (hFu117.at k_a (by decide) (by decide)).trans t112
        obtain ⟨c1u117, c2u117, chu117, e19u117, e20u117, e21u117, j1u117, j2u117, j3u117, j4u117⟩ := xu117
        refine sv_same (st2 := []) (lv2 := [(0, sv_r a)]) rfl rfl ?_
        refine sv_go C.1 C.2.1 [(.aload_n 0, 1)] (pc' := 92) (by decide +kernel) rfl (lv' := [(0, sv_r a)]) (st' := [sv_r a]) rfl ?_
        obtain ⟨v120, ev120, kv120⟩ := hIu117.ref (k := 3) k_a rfl
        refine sv_gf C (index := 57) (ci := 10) (k := 3) (r := (RX11, TX11, 47)) (v := sv_r v120) (by decide +kernel) (by rw [k_a]; rfl) rfl (by decide) fl_X11_57 (congrArg sv_a ev120) ?_
        refine sv_go C.1 C.2.1 [(.iconst 4, 1), (.aload_n 0, 1), (.iconst 0, 1), (.bipush 90, 2)] (pc' := 100) (by decide +kernel) rfl (lv' := [(0, sv_r a)]) (st' := [sv_i 90, sv_i 0, sv_r a, sv_i 4, sv_r v120]) rfl ?_
        refine st_cv C (index := 252) (k := 2) (rest := [sv_i 4, sv_r v120]) (ci := 10) (r := (RX11, TX11, 47)) (by decide +kernel) (sf_X11_takeNumber l g A ty σ115 hok116 hTA hIu117 a k_a (0) ⟨by omega, by omega⟩ (90) ⟨by omega, by omega⟩ (n18) ⟨by omega, by omega⟩ (c1u117) ⟨by omega, by omega⟩ (c2u117) ⟨by omega, by omega⟩ (chu117) ⟨by omega, by omega⟩ t118 e19u117 e20u117 e21u117 (by omega) (by omega) (by omega)) ⟨co_X11_takeNumber, in_X11, ⟨by decide, by decide, by decide +kernel⟩, Nat.le_of_ble_eq_true rfl, Nat.le_of_ble_eq_true rfl⟩ ml_X11_252 im_X11_takeNumber se_X11_takeNumber (by rw [k_a]; rfl) rfl rfl rfl (Nat.le_of_ble_eq_true rfl) ⟨Nat.zero_le _, Nat.zero_le _⟩ (fun r122 σ123 hpo121 hok124 => ?_) (fun xt125 σ123 hpo121 hok124 => st_out C hE hok124 ⟨hpo121.1, hpo121.2.1, hGu117.tr hpo121.2.2 (by decide) (by decide)⟩)
        obtain ⟨⟨vu126, rfl, hvu126, ivu126_0⟩, hIu126, hFu126, xu126⟩ := hpo121
        have hGu126 := hGu117.tr hFu126 (by decide) (by decide)
        have t127 : σ123 a 18 = n18 := (hFu126.at k_a (by decide) (by decide)).trans t118
        have t128 : σ123 a 26 = 1 := (hFu126.at k_a (by decide) (by decide)).trans t119
        have t129 : σ123 a 3 = (v120 : Int) + 1 := (hFu126.at k_a (by decide) (by decide)).trans ev120
        obtain ⟨c1u126, c2u126, chu126, e19u126, e20u126, e21u126, j1u126, j2u126, j3u126, j4u126⟩ := xu126
        have hp130 := ivu126_0 (by omega) (by omega)
        refine sv_same (st2 := [sv_i vu126, sv_i 4, sv_r v120]) (lv2 := [(0, sv_r a)]) rfl rfl ?_
        refine sv_is C (n := 5) (by decide +kernel) (by rw [kv120]; rfl) (by decide) (by omega) (by omega) ⟨by omega, by omega⟩ (hTA _ (by rw [kv120]; decide)) hok124 (fun hok131 => ?_)
        have hI133 := hIu126.up (a := v120) (k := (4 : Int).toNat) (z := vu126) (by rw [kv120]; exact trivial)
        have hF134 := hGu126.up (a := v120) (k := (4 : Int).toNat) (z := vu126) (Or.inl (by rw [kv120]; decide))
        generalize eσ132 : sv_up σ123 v120 (4 : Int).toNat vu126 = σ132 at hok131 hI133 hF134 ⊢
        have t135 : σ132 a 18 = n18 := by rw [← eσ132, sv_up_a (sv_ne k_a kv120 (by decide))]; exact t127
        have t136 : σ132 a 26 = 1 := by rw [← eσ132, sv_up_a (sv_ne k_a kv120 (by decide))]; exact t128
        have t137 : σ132 a 3 = (v120 : Int) + 1 := by rw [← eσ132, sv_up_a (sv_ne k_a kv120 (by decide))]; exact t129
        have t138 : σ132 a 19 = c1u126 := by rw [← eσ132, sv_up_a (sv_ne k_a kv120 (by decide))]; exact e19u126
        have t139 : σ132 a 20 = c2u126 := by rw [← eσ132, sv_up_a (sv_ne k_a kv120 (by decide))]; exact e20u126
        have t140 : σ132 a 21 = chu126 := by rw [← eσ132, sv_up_a (sv_ne k_a kv120 (by decide))]; exact e21u126
        have t141 : σ132 v120 (4 : Int).toNat = vu126 := by rw [← eσ132]; exact sv_up_s _ _ _ _
        refine sv_goto C.1 C.2.1 (off := 74) (tgt := 178) (by decide +kernel) (by decide) ?_
        exact st_of (sv_vret C hr (by decide +kernel) hok131 (⟨rfl, hI133, hF134, _, _, _, t138, t139, t140, by omega, by omega, by omega, by omega⟩))
      · refine sv_go C.1 C.2.1 [(.aload_n 0, 1), (.iconst 5, 1)] (pc' := 78) (by decide +kernel) rfl (lv' := [(0, sv_r a)]) (st' := [sv_i 5, sv_r a]) rfl ?_
        refine sv_cv C (index := 225) (k := 1) (rest := []) (ci := 10) (r := (RX11, TX11, 47)) (by decide +kernel) (sf_X11_wrong l g A ty σ hok10 hTA hI a k_a (5) ⟨by omega, by omega⟩) ⟨co_X11_wrong, in_X11, ⟨by decide, by decide, by decide +kernel⟩, Nat.le_of_ble_eq_true rfl, Nat.le_of_ble_eq_true rfl⟩ ml_X11_225 im_X11_wrong se_X11_wrong (by rw [k_a]; rfl) rfl rfl rfl (Nat.le_of_ble_eq_true rfl) ⟨Nat.zero_le _, Nat.zero_le _⟩ (fun r143 σ144 hpo142 hok145 => ?_)
        obtain ⟨⟨qu146, rfl, kqu146⟩, hIu146, hFu146⟩ := hpo142
        have hGu146 := hF.tr hFu146 (by decide) (by decide)
        have t147 : σ144 a 18 = n18 := (hFu146.at k_a (by decide) (by decide)).trans e18
        have t148 : σ144 a 19 = b1 := (hFu146.at k_a (by decide) (by decide)).trans e19
        have t149 : σ144 a 20 = b2 := (hFu146.at k_a (by decide) (by decide)).trans e20
        have t150 : σ144 a 21 = hh := (hFu146.at k_a (by decide) (by decide)).trans e21
        have t151 : σ144 a 26 = v102 := (hFu146.at k_a (by decide) (by decide)).trans ev102
        refine sv_same (st2 := [sv_r qu146]) (lv2 := [(0, sv_r a)]) rfl rfl ?_
        exact st_throw C hE (by decide +kernel) hok145 ⟨kqu146, hIu146, hGu146⟩
  · have hp152 := ivu5_0 (by omega) (by omega)
    refine sv_go C.1 C.2.1 [(.aload_n 0, 1)] (pc' := 10) (by decide +kernel) rfl (lv' := [(0, sv_r a)]) (st' := [sv_r a]) rfl ?_
    obtain ⟨v153, ev153, hv153⟩ := sv_rdkz hok4 (a := a) (k := 25) (ci := 10) (r := (RX11, TX11, 47)) (by rw [k_a]; rfl) rfl (by decide) rfl
    refine sv_gf C (index := 239) (ci := 10) (k := 25) (r := (RX11, TX11, 47)) (v := sv_i v153) (by decide +kernel) (by rw [k_a]; rfl) rfl (by decide) fl_X11_239 (congrArg sv_i ev153) ?_
    refine sv_if C.1 C.2.1 (cnd := .eq) (off := 9) (tgt := 22) (by decide +kernel) (by decide) ⟨by omega, by omega⟩ (fun (h154 : v153 = 0) => ?_) (fun (h154 : ¬ (v153 = 0)) => ?_)
    · refine sv_go C.1 C.2.1 [(.aload_n 0, 1), (.iconst 1, 1)] (pc' := 24) (by decide +kernel) rfl (lv' := [(0, sv_r a)]) (st' := [sv_i 1, sv_r a]) rfl ?_
      refine sv_pf C (index := 239) (ci := 10) (k := 25) (r := (RX11, TX11, 47)) (z := 1) (by decide +kernel) (by rw [k_a]; rfl) rfl (by decide) rfl fl_X11_239 rfl (Or.inr (Or.inl rfl)) ⟨by omega, by omega⟩ (hTA _ (by rw [k_a]; decide)) hok4 (fun hok155 => ?_)
      have hI157 := hI.up (a := a) (k := 25) (z := 1) (by rw [k_a]; exact trivial)
      have hF158 := hF.up (a := a) (k := 25) (z := 1) (Or.inr (by rw [k_a]; decide))
      generalize eσ156 : sv_up σ a 25 1 = σ156 at hok155 hI157 hF158 ⊢
      have t159 : σ156 a 18 = n18 := by rw [← eσ156, sv_up_k (by decide)]; exact e18
      have t160 : σ156 a 19 = b1 := by rw [← eσ156, sv_up_k (by decide)]; exact e19
      have t161 : σ156 a 20 = b2 := by rw [← eσ156, sv_up_k (by decide)]; exact e20
      have t162 : σ156 a 21 = hh := by rw [← eσ156, sv_up_k (by decide)]; exact e21
      have t163 : σ156 a 25 = 1 := by rw [← eσ156]; exact sv_up_s _ _ _ _
      refine sv_go C.1 C.2.1 [(.aload_n 0, 1)] (pc' := 28) (by decide +kernel) rfl (lv' := [(0, sv_r a)]) (st' := [sv_r a]) rfl ?_
      refine sv_cv C (index := 229) (k := 0) (rest := []) (ci := 10) (r := (RX11, TX11, 47)) (by decide +kernel) (sf_X11_scan l g A ty σ156 hok155 hTA hI157 a k_a (n18) ⟨by omega, by omega⟩ (b2) ⟨by omega, by omega⟩ t159 t161 (by omega)) ⟨co_X11_scan, in_X11, ⟨by decide, by decide, by decide +kernel⟩, Nat.le_of_ble_eq_true rfl, Nat.le_of_ble_eq_true rfl⟩ ml_X11_229 im_X11_scan se_X11_scan (by rw [k_a]; rfl) rfl rfl rfl (Nat.le_of_ble_eq_true rfl) ⟨Nat.zero_le _, Nat.zero_le _⟩ (fun r165 σ166 hpo164 hok167 => ?_)
      obtain ⟨rfl, hIu168, hFu168, xu168⟩ := hpo164
      have hGu168 := hF158.tr hFu168 (by decide) (by decide)
      have t169 : σ166 a 18 = n18 := (hFu168.at k_a (by decide) (by decide)).trans t159
      have t170 : σ166 a 25 = 1 := (hFu168.at k_a (by decide) (by decide)).trans t163
      obtain ⟨c1u168, c2u168, chu168, e19u168, e20u168, e21u168, j1u168, j2u168, j3u168, j4u168⟩ := xu168
      refine sv_same (st2 := []) (lv2 := [(0, sv_r a)]) rfl rfl ?_
      refine sv_go C.1 C.2.1 [(.aload_n 0, 1)] (pc' := 32) (by decide +kernel) rfl (lv' := [(0, sv_r a)]) (st' := [sv_r a]) rfl ?_
      obtain ⟨v171, ev171, kv171⟩ := hIu168.ref (k := 1) k_a rfl
      refine sv_gf C (index := 51) (ci := 10) (k := 1) (r := (RX11, TX11, 47)) (v := sv_r v171) (by decide +kernel) (by rw [k_a]; rfl) rfl (by decide) fl_X11_51 (congrArg sv_a ev171) ?_
      refine sv_go C.1 C.2.1 [(.iconst 4, 1), (.aload_n 0, 1), (.iconst 1, 1), (.bipush 8, 2)] (pc' := 40) (by decide +kernel) rfl (lv' := [(0, sv_r a)]) (st' := [sv_i 8, sv_i 1, sv_r a, sv_i 4, sv_r v171]) rfl ?_
      refine st_cv C (index := 252) (k := 2) (rest := [sv_i 4, sv_r v171]) (ci := 10) (r := (RX11, TX11, 47)) (by decide +kernel) (sf_X11_takeNumber l g A ty σ166 hok167 hTA hIu168 a k_a (1) ⟨by omega, by omega⟩ (8) ⟨by omega, by omega⟩ (n18) ⟨by omega, by omega⟩ (c1u168) ⟨by omega, by omega⟩ (c2u168) ⟨by omega, by omega⟩ (chu168) ⟨by omega, by omega⟩ t169 e19u168 e20u168 e21u168 (by omega) (by omega) (by omega)) ⟨co_X11_takeNumber, in_X11, ⟨by decide, by decide, by decide +kernel⟩, Nat.le_of_ble_eq_true rfl, Nat.le_of_ble_eq_true rfl⟩ ml_X11_252 im_X11_takeNumber se_X11_takeNumber (by rw [k_a]; rfl) rfl rfl rfl (Nat.le_of_ble_eq_true rfl) ⟨Nat.zero_le _, Nat.zero_le _⟩ (fun r173 σ174 hpo172 hok175 => ?_) (fun xt176 σ174 hpo172 hok175 => st_out C hE hok175 ⟨hpo172.1, hpo172.2.1, hGu168.tr hpo172.2.2 (by decide) (by decide)⟩)
      obtain ⟨⟨vu177, rfl, hvu177, ivu177_0⟩, hIu177, hFu177, xu177⟩ := hpo172
      have hGu177 := hGu168.tr hFu177 (by decide) (by decide)
      have t178 : σ174 a 18 = n18 := (hFu177.at k_a (by decide) (by decide)).trans t169
      have t179 : σ174 a 25 = 1 := (hFu177.at k_a (by decide) (by decide)).trans t170
      have t180 : σ174 a 1 = (v171 : Int) + 1 := (hFu177.at k_a (by decide) (by decide)).trans ev171
      obtain ⟨c1u177, c2u177, chu177, e19u177, e20u177, e21u177, j1u177, j2u177, j3u177, j4u177⟩ := xu177
      have hp181 := ivu177_0 (by omega) (by omega)
      refine sv_same (st2 := [sv_i vu177, sv_i 4, sv_r v171]) (lv2 := [(0, sv_r a)]) rfl rfl ?_
      refine sv_is C (n := 5) (by decide +kernel) (by rw [kv171]; rfl) (by decide) (by omega) (by omega) ⟨by omega, by omega⟩ (hTA _ (by rw [kv171]; decide)) hok175 (fun hok182 => ?_)
      have hI184 := hIu177.up (a := v171) (k := (4 : Int).toNat) (z := vu177) (by rw [kv171]; exact trivial)
      have hF185 := hGu177.up (a := v171) (k := (4 : Int).toNat) (z := vu177) (Or.inl (by rw [kv171]; decide))
      generalize eσ183 : sv_up σ174 v171 (4 : Int).toNat vu177 = σ183 at hok182 hI184 hF185 ⊢
      have t186 : σ183 a 18 = n18 := by rw [← eσ183, sv_up_a (sv_ne k_a kv171 (by decide))]; exact t178
      have t187 : σ183 a 25 = 1 := by rw [← eσ183, sv_up_a (sv_ne k_a kv171 (by decide))]; exact t179
      have t188 : σ183 a 1 = (v171 : Int) + 1 := by rw [← eσ183, sv_up_a (sv_ne k_a kv171 (by decide))]; exact t180
      have t189 : σ183 a 19 = c1u177 := by rw [← eσ183, sv_up_a (sv_ne k_a kv171 (by decide))]; exact e19u177
      have t190 : σ183 a 20 = c2u177 := by rw [← eσ183, sv_up_a (sv_ne k_a kv171 (by decide))]; exact e20u177
      have t191 : σ183 a 21 = chu177 := by rw [← eσ183, sv_up_a (sv_ne k_a kv171 (by decide))]; exact e21u177
      have t192 : σ183 v171 (4 : Int).toNat = vu177 := by rw [← eσ183]; exact sv_up_s _ _ _ _
      refine sv_go C.1 C.2.1 [(.aload_n 0, 1)] (pc' := 45) (by decide +kernel) rfl (lv' := [(0, sv_r a)]) (st' := [sv_r a]) rfl ?_
      obtain ⟨v193, ev193, kv193⟩ := hI184.ref (k := 2) k_a rfl
      refine sv_gf C (index := 54) (ci := 10) (k := 2) (r := (RX11, TX11, 47)) (v := sv_r v193) (by decide +kernel) (by rw [k_a]; rfl) rfl (by decide) fl_X11_54 (congrArg sv_a ev193) ?_
      refine sv_go C.1 C.2.1 [(.iconst 4, 1), (.aload_n 0, 1), (.iconst 0, 1), (.bipush 30, 2)] (pc' := 53) (by decide +kernel) rfl (lv' := [(0, sv_r a)]) (st' := [sv_i 30, sv_i 0, sv_r a, sv_i 4, sv_r v193]) rfl ?_
      refine st_cv C (index := 252) (k := 2) (rest := [sv_i 4, sv_r v193]) (ci := 10) (r := (RX11, TX11, 47)) (by decide +kernel) (sf_X11_takeNumber l g A ty σ183 hok182 hTA hI184 a k_a (0) ⟨by omega, by omega⟩ (30) ⟨by omega, by omega⟩ (n18) ⟨by omega, by omega⟩ (c1u177) ⟨by omega, by omega⟩ (c2u177) ⟨by omega, by omega⟩ (chu177) ⟨by omega, by omega⟩ t186 t189 t190 t191 (by omega) (by omega) (by omega)) ⟨co_X11_takeNumber, in_X11, ⟨by decide, by decide, by decide +kernel⟩, Nat.le_of_ble_eq_true rfl, Nat.le_of_ble_eq_true rfl⟩ ml_X11_252 im_X11_takeNumber se_X11_takeNumber (by rw [k_a]; rfl) rfl rfl rfl (Nat.le_of_ble_eq_true rfl) ⟨Nat.zero_le _, Nat.zero_le _⟩ (fun r195 σ196 hpo194 hok197 => ?_) (fun xt198 σ196 hpo194 hok197 => st_out C hE hok197 ⟨hpo194.1, hpo194.2.1, hF185.tr hpo194.2.2 (by decide) (by decide)⟩)
      obtain ⟨⟨vu199, rfl, hvu199, ivu199_0⟩, hIu199, hFu199, xu199⟩ := hpo194
      have hGu199 := hF185.tr hFu199 (by decide) (by decide)
      have t200 : σ196 a 18 = n18 := (hFu199.at k_a (by decide) (by decide)).trans t186
      have t201 : σ196 a 25 = 1 := (hFu199.at k_a (by decide) (by decide)).trans t187
      have t202 : σ196 a 1 = (v171 : Int) + 1 := (hFu199.at k_a (by decide) (by decide)).trans t188
      have t203 : σ196 v171 (4 : Int).toNat = vu177 := (hFu199.atA kv171 (by decide) (by decide)).trans t192
      have t204 : σ196 a 2 = (v193 : Int) + 1 := (hFu199.at k_a (by decide) (by decide)).trans ev193
      obtain ⟨c1u199, c2u199, chu199, e19u199, e20u199, e21u199, j1u199, j2u199, j3u199, j4u199⟩ := xu199
      have hp205 := ivu199_0 (by omega) (by omega)
      refine sv_same (st2 := [sv_i vu199, sv_i 4, sv_r v193]) (lv2 := [(0, sv_r a)]) rfl rfl ?_
      refine sv_is C (n := 5) (by decide +kernel) (by rw [kv193]; rfl) (by decide) (by omega) (by omega) ⟨by omega, by omega⟩ (hTA _ (by rw [kv193]; decide)) hok197 (fun hok206 => ?_)
      have hI208 := hIu199.up (a := v193) (k := (4 : Int).toNat) (z := vu199) (by rw [kv193]; exact trivial)
      have hF209 := hGu199.up (a := v193) (k := (4 : Int).toNat) (z := vu199) (Or.inl (by rw [kv193]; decide))
      generalize eσ207 : sv_up σ196 v193 (4 : Int).toNat vu199 = σ207 at hok206 hI208 hF209 ⊢
      have t210 : σ207 a 18 = n18 := by rw [← eσ207, sv_up_a (sv_ne k_a kv193 (by decide))]; exact t200
      have t211 : σ207 a 25 = 1 := by rw [← eσ207, sv_up_a (sv_ne k_a kv193 (by decide))]; exact t201
      have t212 : σ207 a 1 = (v171 : Int) + 1 := by rw [← eσ207, sv_up_a (sv_ne k_a kv193 (by decide))]; exact t202
      have t213 : σ207 v171 (4 : Int).toNat = vu177 := by rw [← eσ207, sv_up_a (sv_ne kv171 kv193 (by decide))]; exact t203
      have t214 : σ207 a 2 = (v193 : Int) + 1 := by rw [← eσ207, sv_up_a (sv_ne k_a kv193 (by decide))]; exact t204
      have t215 : σ207 a 19 = c1u199 := by rw [← eσ207, sv_up_a (sv_ne k_a kv193 (by decide))]; exact e19u199
      have t216 : σ207 a 20 = c2u199 := by rw [← eσ207, sv_up_a (sv_ne k_a kv193 (by decide))]; exact e20u199
      have t217 : σ207 a 21 = chu199 := by rw [← eσ207, sv_up_a (sv_ne k_a kv193 (by decide))]; exact e21u199
      have t218 : σ207 v193 (4 : Int).toNat = vu199 := by rw [← eσ207]; exact sv_up_s _ _ _ _
      refine sv_goto C.1 C.2.1 (off := 121) (tgt := 178) (by decide +kernel) (by decide) ?_
      exact st_of (sv_vret C hr (by decide +kernel) hok206 (⟨rfl, hI208, hF209, _, _, _, t215, t216, t217, by omega, by omega, by omega, by omega⟩))
    · refine sv_go C.1 C.2.1 [(.aload_n 0, 1), (.iconst 5, 1)] (pc' := 18) (by decide +kernel) rfl (lv' := [(0, sv_r a)]) (st' := [sv_i 5, sv_r a]) rfl ?_
      refine sv_cv C (index := 225) (k := 1) (rest := []) (ci := 10) (r := (RX11, TX11, 47)) (by decide +kernel) (sf_X11_wrong l g A ty σ hok4 hTA hI a k_a (5) ⟨by omega, by omega⟩) ⟨co_X11_wrong, in_X11, ⟨by decide, by decide, by decide +kernel⟩, Nat.le_of_ble_eq_true rfl, Nat.le_of_ble_eq_true rfl⟩ ml_X11_225 im_X11_wrong se_X11_wrong (by rw [k_a]; rfl) rfl rfl rfl (Nat.le_of_ble_eq_true rfl) ⟨Nat.zero_le _, Nat.zero_le _⟩ (fun r220 σ221 hpo219 hok222 => ?_)
      obtain ⟨⟨qu223, rfl, kqu223⟩, hIu223, hFu223⟩ := hpo219
      have hGu223 := hF.tr hFu223 (by decide) (by decide)
      have t224 : σ221 a 18 = n18 := (hFu223.at k_a (by decide) (by decide)).trans e18
      have t225 : σ221 a 19 = b1 := (hFu223.at k_a (by decide) (by decide)).trans e19
      have t226 : σ221 a 20 = b2 := (hFu223.at k_a (by decide) (by decide)).trans e20
      have t227 : σ221 a 21 = hh := (hFu223.at k_a (by decide) (by decide)).trans e21
      have t228 : σ221 a 25 = v153 := (hFu223.at k_a (by decide) (by decide)).trans ev153
      refine sv_same (st2 := [sv_r qu223]) (lv2 := [(0, sv_r a)]) rfl rfl ?_
      exact st_throw C hE (by decide +kernel) hok222 ⟨kqu223, hIu223, hGu223⟩
