set_option maxHeartbeats 4000000 in
set_option maxRecDepth 100000 in
theorem sf_X6_quoted (l : Launch) (g : sv_G) (A : Nat → Prop) (ty : Nat → Nat) (σ : Nat → Nat → Int) (hok : sv_ok ty σ) (hTA : ∀ q, ty q ≠ 0 → A q) (hI : sv_inv sp_1 ty σ) (v : Int) (h_v : (-2147483648) ≤ v ∧ v ≤ 2147483647) : sv_M l yX6_quoted cX6_quoted 1 (some (.object "java/lang/String")) { frames := 0, cells := 0, slots := 0, locals := 0 } g A ty σ [sv_i v] (fun r σ' => σ = σ' ∧ ∃ rq : Nat, rq < 23 ∧ r = [sv_r (g.2.2.2.2.1 rq)]) := by
  refine sv_enter (by decide) (Nat.le_of_ble_eq_true rfl) ?_
  intro p e s m args below meth c C hr
  have C : sv_C g A RX6 cX6_quoted 1 p s m args meth c := C
  have hr : meth.sig.returnType = (some (.object "java/lang/String")) := hr
  have hF : sv_ofx [] [] ty σ σ := sv_ofx.rf
  refine sv_same (st2 := []) (lv2 := [(0, sv_i v)]) rfl rfl ?_
  refine sv_go C.1 C.2.1 [(.iload_n 0, 1)] (pc' := 1) (by decide +kernel) rfl (lv' := [(0, sv_i v)]) (st' := [sv_i v]) rfl ?_
  rcases (show v = 10 ∨ v = 11 ∨ v = 12 ∨ v = 13 ∨ v = 14 ∨ v = 15 ∨ v = 16 ∨ v = 17 ∨ v = 18 ∨ v = 19 ∨ v = 20 ∨ (v ≠ 10 ∧ v ≠ 11 ∧ v ≠ 12 ∧ v ≠ 13 ∧ v ≠ 14 ∧ v ≠ 15 ∧ v ≠ 16 ∧ v ≠ 17 ∧ v ≠ 18 ∧ v ≠ 19 ∧ v ≠ 20) by omega) with h1 | h1 | h1 | h1 | h1 | h1 | h1 | h1 | h1 | h1 | h1 | h1
  · refine sv_tsI C.1 C.2.1 (dflt := 92) (lo := 10) (hi := 20) (offs := #[59, 62, 65, 68, 71, 74, 77, 80, 83, 86, 89]) (len := 59) (off := 59) (tgt := 60) (by decide +kernel) 10 h1 (by decide) rfl (by decide) ?_
    refine sq_ldc C (index := 105) (tx := "fixed") 0 (by decide) rfl (by decide +kernel) ?_
    exact sv_aret C hr (Or.inl ⟨_, rfl⟩) (by decide +kernel) hok (⟨rfl, ⟨0, (by decide), rfl⟩⟩)
  · refine sv_tsI C.1 C.2.1 (dflt := 92) (lo := 10) (hi := 20) (offs := #[59, 62, 65, 68, 71, 74, 77, 80, 83, 86, 89]) (len := 59) (off := 62) (tgt := 63) (by decide +kernel) 11 h1 (by decide) rfl (by decide) ?_
    refine sq_ldc C (index := 107) (tx := "moved") 1 (by decide) rfl (by decide +kernel) ?_
    exact sv_aret C hr (Or.inl ⟨_, rfl⟩) (by decide +kernel) hok (⟨rfl, ⟨1, (by decide), rfl⟩⟩)
  · refine sv_tsI C.1 C.2.1 (dflt := 92) (lo := 10) (hi := 20) (offs := #[59, 62, 65, 68, 71, 74, 77, 80, 83, 86, 89]) (len := 59) (off := 65) (tgt := 66) (by decide +kernel) 12 h1 (by decide) rfl (by decide) ?_
    refine sq_ldc C (index := 109) (tx := "sunday") 2 (by decide) rfl (by decide +kernel) ?_
    exact sv_aret C hr (Or.inl ⟨_, rfl⟩) (by decide +kernel) hok (⟨rfl, ⟨2, (by decide), rfl⟩⟩)
  · refine sv_tsI C.1 C.2.1 (dflt := 92) (lo := 10) (hi := 20) (offs := #[59, 62, 65, 68, 71, 74, 77, 80, 83, 86, 89]) (len := 59) (off := 68) (tgt := 69) (by decide +kernel) 13 h1 (by decide) rfl (by decide) ?_
    refine sq_ldc C (index := 111) (tx := "rank") 3 (by decide) rfl (by decide +kernel) ?_
    exact sv_aret C hr (Or.inl ⟨_, rfl⟩) (by decide +kernel) hok (⟨rfl, ⟨3, (by decide), rfl⟩⟩)
  · refine sv_tsI C.1 C.2.1 (dflt := 92) (lo := 10) (hi := 20) (offs := #[59, 62, 65, 68, 71, 74, 77, 80, 83, 86, 89]) (len := 59) (off := 71) (tgt := 72) (by decide +kernel) 14 h1 (by decide) rfl (by decide) ?_
    refine sq_ldc C (index := 113) (tx := "vigil") 4 (by decide) rfl (by decide +kernel) ?_
    exact sv_aret C hr (Or.inl ⟨_, rfl⟩) (by decide +kernel) hok (⟨rfl, ⟨4, (by decide), rfl⟩⟩)
  · refine sv_tsI C.1 C.2.1 (dflt := 92) (lo := 10) (hi := 20) (offs := #[59, 62, 65, 68, 71, 74, 77, 80, 83, 86, 89]) (len := 59) (off := 74) (tgt := 75) (by decide +kernel) 15 h1 (by decide) rfl (by decide) ?_
    refine sq_ldc C (index := 115) (tx := "octave") 5 (by decide) rfl (by decide +kernel) ?_
    exact sv_aret C hr (Or.inl ⟨_, rfl⟩) (by decide +kernel) hok (⟨rfl, ⟨5, (by decide), rfl⟩⟩)
  · refine sv_tsI C.1 C.2.1 (dflt := 92) (lo := 10) (hi := 20) (offs := #[59, 62, 65, 68, 71, 74, 77, 80, 83, 86, 89]) (len := 59) (off := 77) (tgt := 78) (by decide +kernel) 16 h1 (by decide) rfl (by decide) ?_
    refine sq_ldc C (index := 117) (tx := "from") 6 (by decide) rfl (by decide +kernel) ?_
    exact sv_aret C hr (Or.inl ⟨_, rfl⟩) (by decide +kernel) hok (⟨rfl, ⟨6, (by decide), rfl⟩⟩)
  · refine sv_tsI C.1 C.2.1 (dflt := 92) (lo := 10) (hi := 20) (offs := #[59, 62, 65, 68, 71, 74, 77, 80, 83, 86, 89]) (len := 59) (off := 80) (tgt := 81) (by decide +kernel) 17 h1 (by decide) rfl (by decide) ?_
    refine sq_ldc C (index := 119) (tx := "till") 7 (by decide) rfl (by decide +kernel) ?_
    exact sv_aret C hr (Or.inl ⟨_, rfl⟩) (by decide +kernel) hok (⟨rfl, ⟨7, (by decide), rfl⟩⟩)
  · refine sv_tsI C.1 C.2.1 (dflt := 92) (lo := 10) (hi := 20) (offs := #[59, 62, 65, 68, 71, 74, 77, 80, 83, 86, 89]) (len := 59) (off := 83) (tgt := 84) (by decide +kernel) 18 h1 (by decide) rfl (by decide) ?_
    refine sq_ldc C (index := 121) (tx := "yield") 8 (by decide) rfl (by decide +kernel) ?_
    exact sv_aret C hr (Or.inl ⟨_, rfl⟩) (by decide +kernel) hok (⟨rfl, ⟨8, (by decide), rfl⟩⟩)
  · refine sv_tsI C.1 C.2.1 (dflt := 92) (lo := 10) (hi := 20) (offs := #[59, 62, 65, 68, 71, 74, 77, 80, 83, 86, 89]) (len := 59) (off := 86) (tgt := 87) (by decide +kernel) 19 h1 (by decide) rfl (by decide) ?_
    refine sq_ldc C (index := 123) (tx := "wax") 9 (by decide) rfl (by decide +kernel) ?_
    exact sv_aret C hr (Or.inl ⟨_, rfl⟩) (by decide +kernel) hok (⟨rfl, ⟨9, (by decide), rfl⟩⟩)
  · refine sv_tsI C.1 C.2.1 (dflt := 92) (lo := 10) (hi := 20) (offs := #[59, 62, 65, 68, 71, 74, 77, 80, 83, 86, 89]) (len := 59) (off := 89) (tgt := 90) (by decide +kernel) 20 h1 (by decide) rfl (by decide) ?_
    refine sq_ldc C (index := 125) (tx := "lent") 10 (by decide) rfl (by decide +kernel) ?_
    exact sv_aret C hr (Or.inl ⟨_, rfl⟩) (by decide +kernel) hok (⟨rfl, ⟨10, (by decide), rfl⟩⟩)
  · refine sv_tsO C.1 C.2.1 (dflt := 92) (lo := 10) (hi := 20) (offs := #[59, 62, 65, 68, 71, 74, 77, 80, 83, 86, 89]) (len := 59) (tgt := 93) (by decide +kernel) ⟨by omega, by omega⟩ (by omega) (by decide) ?_
    refine sq_ldc C (index := 127) (tx := "") 11 (by decide) rfl (by decide +kernel) ?_
    exact sv_aret C hr (Or.inl ⟨_, rfl⟩) (by decide +kernel) hok (⟨rfl, ⟨11, (by decide), rfl⟩⟩)

theorem ml_X6_97 : Cond.methodLink RX6 97 yJ0_length_8abf5 ∈ lw_good := sv_mem 493 (by decide +kernel) rfl
theorem fl_X6_39 : Cond.fieldLink RX6 39 "SaintsRoad$Reader" "at" "I" ∈ lw_good := sv_mem 131 (by decide +kernel) rfl
theorem fl_X6_55 : Cond.fieldLink RX6 55 "SaintsRoad$Reader" "start" "I" ∈ lw_good := sv_mem 133 (by decide +kernel) rfl
theorem fl_X6_15 : Cond.fieldLink RX6 15 "SaintsRoad$Reader" "tape" "LSaintsRoad$Tape;" ∈ lw_good := sv_mem 127 (by decide +kernel) rfl
theorem ml_X6_63 : Cond.methodLink RX6 63 yX7_byteAt ∈ lw_good := sv_mem 456 (by decide +kernel) rfl
theorem ml_X6_101 : Cond.methodLink RX6 101 yJ0_charAt_5068e ∈ lw_good := sv_mem 503 (by decide +kernel) rfl
set_option maxHeartbeats 4000000 in
set_option maxRecDepth 100000 in
theorem sf_X6_isAtStart (l : Launch) (g : sv_G) (A : Nat → Prop) (ty : Nat → Nat) (σ : Nat → Nat → Int) (hok : sv_ok ty σ) (hTA : ∀ q, ty q ≠ 0 → A q) (hI : sv_inv sp_1 ty σ) (a : Nat) (k_a : ty a = 3) (tq : Nat) (k_tq : ty tq = 2) (cq : Nat) (k_cq : ty cq = 7) (fq : Nat) (k_fq : ty fq = 8) (w : Nat) (h_w : w < 23) (pR2 : σ a 2 = (tq : Int) + 1) (pR3 : σ a 3 = (cq : Int) + 1) (pR4 : σ a 4 = (fq : Int) + 1) : sv_M l yX6_isAtStart cX6_isAtStart 3 (some .boolean) { frames := 4, cells := 0, slots := 0, locals := 85 } g A ty σ [sv_r a, sv_r (g.2.2.2.2.1 w)] (fun r σ' => σ = σ' ∧ ∃ rv : Int, r = [sv_i rv] ∧ (0 ≤ rv ∧ rv ≤ 1)) := by
  refine sv_enter (by decide) (Nat.le_of_ble_eq_true rfl) ?_
  intro p e s m args below meth c C hr
  have C : sv_C g A RX6 cX6_isAtStart 3 p s m args meth c := C
  have hr : meth.sig.returnType = (some .boolean) := hr
  have hF : sv_ofx [] [] ty σ σ := sv_ofx.rf
  refine sv_same (st2 := []) (lv2 := [(0, sv_r a), (1, sv_r (g.2.2.2.2.1 w))]) rfl rfl ?_
  refine sv_go C.1 C.2.1 [(.aload_n 1, 1)] (pc' := 1) (by decide +kernel) rfl (lv' := [(0, sv_r a), (1, sv_r (g.2.2.2.2.1 w))]) (st' := [sv_r (g.2.2.2.2.1 w)]) rfl ?_
  have hn5 := sq_n_in w
  refine sq_cv C h_w (index := 97) (k := 0) (as := []) (rest := []) (by decide +kernel) (sq_length l g A ty σ hok w h_w) ⟨co_J0_length_8abf5, in_J0, ⟨by decide, by decide, by decide +kernel⟩, Nat.le_of_ble_eq_true rfl, Nat.le_of_ble_eq_true rfl⟩ ml_X6_97 im_J0_length_8abf5 se_J0_length_8abf5 rfl rfl (Nat.le_of_ble_eq_true rfl) ⟨Nat.zero_le _, Nat.zero_le _⟩ (fun r2 σ3 hpo1 hok4 => ?_)
  obtain ⟨rfl, rfl⟩ := hpo1
  refine sv_same (st2 := [sv_i ((sq_n w : Int))]) (lv2 := [(0, sv_r a), (1, sv_r (g.2.2.2.2.1 w))]) rfl rfl ?_
  refine sv_go C.1 C.2.1 [(.aload_n 0, 1)] (pc' := 5) (by decide +kernel) rfl (lv' := [(0, sv_r a), (1, sv_r (g.2.2.2.2.1 w))]) (st' := [sv_r a, sv_i ((sq_n w : Int))]) rfl ?_
  obtain ⟨v6, ev6, hv6⟩ := sv_rdn hI (k := 6) k_a rfl
  refine sv_gf C (index := 39) (ci := 5) (k := 6) (r := (RX6, TX6, 13)) (v := sv_i v6) (by decide +kernel) (by rw [k_a]; rfl) rfl (by decide) fl_X6_39 (congrArg sv_i ev6) ?_
  refine sv_go C.1 C.2.1 [(.aload_n 0, 1)] (pc' := 9) (by decide +kernel) rfl (lv' := [(0, sv_r a), (1, sv_r (g.2.2.2.2.1 w))]) (st' := [sv_r a, sv_i v6, sv_i ((sq_n w : Int))]) rfl ?_
  obtain ⟨v7, ev7, hv7⟩ := sv_rdn hI (k := 8) k_a rfl
  refine sv_gf C (index := 55) (ci := 5) (k := 8) (r := (RX6, TX6, 13)) (v := sv_i v7) (by decide +kernel) (by rw [k_a]; rfl) rfl (by decide) fl_X6_55 (congrArg sv_i ev7) ?_
  refine sv_go C.1 C.2.1 [(.isub, 1)] (pc' := 13) (by decide +kernel) rfl (lv' := [(0, sv_r a), (1, sv_r (g.2.2.2.2.1 w))]) (st' := [sv_i (v6 - v7), sv_i ((sq_n w : Int))]) rfl ?_
  refine sv_icmp C.1 C.2.1 (cnd := .eq) (off := 5) (tgt := 18) (by decide +kernel) (by decide) ⟨by omega, by omega⟩ ⟨by omega, by omega⟩ (fun (h8 : ((sq_n w : Int)) = (v6 - v7)) => ?_) (fun (h8 : ¬ (((sq_n w : Int)) = (v6 - v7))) => ?_)
  · refine sv_go C.1 C.2.1 [(.iconst 0, 1), (.istore_n 2, 1)] (pc' := 20) (by decide +kernel) rfl (lv' := [(0, sv_r a), (1, sv_r (g.2.2.2.2.1 w)), (2, sv_i 0)]) (st' := []) rfl ?_
    have L10 : ∀ (n : Nat) (Xg9_l2 : Int), (0 ≤ Xg9_l2 ∧ Xg9_l2 ≤ 12) → (12 - Xg9_l2) < (n : Int) → sv_E p l e { frames := 4, cells := 0, slots := 0, locals := 85 } s m args below meth c 3 g A ty (fun r σ' => σ = σ' ∧ ∃ rv : Int, r = [sv_i rv] ∧ (0 ≤ rv ∧ rv ≤ 1)) σ 20 [(0, sv_r a), (1, sv_r (g.2.2.2.2.1 w)), (2, sv_i Xg9_l2)] [] := by
      intro n
      induction n with
      | zero => intro Xg9_l2 hXg9_l2 hmu; exact absurd hmu (by omega)
      | succ n ih11 =>
        intro Xg9_l2 hXg9_l2 hmu
        refine sv_go C.1 C.2.1 [(.iload_n 2, 1), (.aload_n 1, 1)] (pc' := 22) (by decide +kernel) rfl (lv' := [(0, sv_r a), (1, sv_r (g.2.2.2.2.1 w)), (2, sv_i Xg9_l2)]) (st' := [sv_r (g.2.2.2.2.1 w), sv_i Xg9_l2]) rfl ?_
        have hn16 := sq_n_in w
        refine sq_cv C h_w (index := 97) (k := 0) (as := []) (rest := [sv_i Xg9_l2]) (by decide +kernel) (sq_length l g A ty σ hok4 w h_w) ⟨co_J0_length_8abf5, in_J0, ⟨by decide, by decide, by decide +kernel⟩, Nat.le_of_ble_eq_true rfl, Nat.le_of_ble_eq_true rfl⟩ ml_X6_97 im_J0_length_8abf5 se_J0_length_8abf5 rfl rfl (Nat.le_of_ble_eq_true rfl) ⟨Nat.zero_le _, Nat.zero_le _⟩ (fun r13 σ14 hpo12 hok15 => ?_)
        obtain ⟨rfl, rfl⟩ := hpo12
        refine sv_same (st2 := [sv_i ((sq_n w : Int)), sv_i Xg9_l2]) (lv2 := [(0, sv_r a), (1, sv_r (g.2.2.2.2.1 w)), (2, sv_i Xg9_l2)]) rfl rfl ?_
        refine sv_icmp C.1 C.2.1 (cnd := .ge) (off := 32) (tgt := 57) (by decide +kernel) (by decide) ⟨by omega, by omega⟩ ⟨by omega, by omega⟩ (fun (h17 : ((sq_n w : Int)) ≤ Xg9_l2) => ?_) (fun (h17 : ¬ (((sq_n w : Int)) ≤ Xg9_l2)) => ?_)
        · refine sv_go C.1 C.2.1 [(.iconst 1, 1)] (pc' := 58) (by decide +kernel) rfl (lv' := [(0, sv_r a), (1, sv_r (g.2.2.2.2.1 w)), (2, sv_i Xg9_l2)]) (st' := [sv_i 1]) rfl ?_
          exact sv_zret C hr (by omega) (by decide +kernel) hok15 (⟨rfl, ⟨_, rfl, ⟨by omega, by omega⟩⟩⟩)
        · refine sv_go C.1 C.2.1 [(.aload_n 0, 1)] (pc' := 29) (by decide +kernel) rfl (lv' := [(0, sv_r a), (1, sv_r (g.2.2.2.2.1 w)), (2, sv_i Xg9_l2)]) (st' := [sv_r a]) rfl ?_
          refine sv_gf C (index := 15) (ci := 5) (k := 2) (r := (RX6, TX6, 13)) (v := sv_r tq) (by decide +kernel) (by rw [k_a]; rfl) rfl (by decide) fl_X6_15 (congrArg sv_a pR2) ?_
          refine sv_go C.1 C.2.1 [(.aload_n 0, 1)] (pc' := 33) (by decide +kernel) rfl (lv' := [(0, sv_r a), (1, sv_r (g.2.2.2.2.1 w)), (2, sv_i Xg9_l2)]) (st' := [sv_r a, sv_r tq]) rfl ?_
          refine sv_gf C (index := 55) (ci := 5) (k := 8) (r := (RX6, TX6, 13)) (v := sv_i v7) (by decide +kernel) (by rw [k_a]; rfl) rfl (by decide) fl_X6_55 (congrArg sv_i ev7) ?_
          refine sv_go C.1 C.2.1 [(.iload_n 2, 1), (.iadd, 1)] (pc' := 38) (by decide +kernel) rfl (lv' := [(0, sv_r a), (1, sv_r (g.2.2.2.2.1 w)), (2, sv_i Xg9_l2)]) (st' := [sv_i (v7 + Xg9_l2), sv_r tq]) rfl ?_
          refine sv_cv C (index := 63) (k := 1) (rest := []) (ci := 6) (r := (RX7, TX7, 2)) (by decide +kernel) (sf_X7_byteAt l g A ty σ hok15 hTA hI tq k_tq (v7 + Xg9_l2) ⟨by omega, by omega⟩) ⟨co_X7_byteAt, in_X7, ⟨by decide, by decide, by decide +kernel⟩, Nat.le_of_ble_eq_true rfl, Nat.le_of_ble_eq_true rfl⟩ ml_X6_63 im_X7_byteAt se_X7_byteAt (by rw [k_tq]; rfl) rfl rfl rfl (Nat.le_of_ble_eq_true rfl) ⟨Nat.zero_le _, Nat.zero_le _⟩ (fun r19 σ20 hpo18 hok21 => ?_)
          obtain ⟨rfl, ⟨vu22, rfl, hvu22, ivu22_0⟩⟩ := hpo18
          refine sv_same (st2 := [sv_i vu22]) (lv2 := [(0, sv_r a), (1, sv_r (g.2.2.2.2.1 w)), (2, sv_i Xg9_l2)]) rfl rfl ?_
          refine sv_go C.1 C.2.1 [(.aload_n 1, 1), (.iload_n 2, 1)] (pc' := 43) (by decide +kernel) rfl (lv' := [(0, sv_r a), (1, sv_r (g.2.2.2.2.1 w)), (2, sv_i Xg9_l2)]) (st' := [sv_i Xg9_l2, sv_r (g.2.2.2.2.1 w), sv_i vu22]) rfl ?_
          have hn27 := sq_n_in w
          refine sq_cv C h_w (index := 101) (k := 1) (as := [sv_i Xg9_l2]) (rest := [sv_i vu22]) (by decide +kernel) (sq_charAt l g A ty σ hok21 w h_w (Xg9_l2) ⟨by omega, by omega⟩) ⟨co_J0_charAt_5068e, in_J0, ⟨by decide, by decide, by decide +kernel⟩, Nat.le_of_ble_eq_true rfl, Nat.le_of_ble_eq_true rfl⟩ ml_X6_101 im_J0_charAt_5068e se_J0_charAt_5068e rfl rfl (Nat.le_of_ble_eq_true rfl) ⟨Nat.zero_le _, Nat.zero_le _⟩ (fun r24 σ25 hpo23 hok26 => ?_)
          obtain ⟨rfl, v28, rfl, hv28⟩ := hpo23
          refine sv_same (st2 := [sv_i v28, sv_i vu22]) (lv2 := [(0, sv_r a), (1, sv_r (g.2.2.2.2.1 w)), (2, sv_i Xg9_l2)]) rfl rfl ?_
          refine sv_icmp C.1 C.2.1 (cnd := .eq) (off := 5) (tgt := 51) (by decide +kernel) (by decide) ⟨by omega, by omega⟩ ⟨by omega, by omega⟩ (fun (h29 : vu22 = v28) => ?_) (fun (h29 : ¬ (vu22 = v28)) => ?_)
          · have hp30 := ivu22_0 (by omega) (by omega)
            refine sv_go C.1 C.2.1 [(.iinc 2 1, 3)] (pc' := 54) (by decide +kernel) rfl (lv' := [(0, sv_r a), (1, sv_r (g.2.2.2.2.1 w)), (2, sv_i (Xg9_l2 + 1))]) (st' := []) rfl ?_
            refine sv_goto C.1 C.2.1 (off := (-34)) (tgt := 20) (by decide +kernel) (by decide) ?_
            exact ih11 (Xg9_l2 + 1) ⟨by omega, by omega⟩ (by omega)
          · refine sv_go C.1 C.2.1 [(.iconst 0, 1)] (pc' := 50) (by decide +kernel) rfl (lv' := [(0, sv_r a), (1, sv_r (g.2.2.2.2.1 w)), (2, sv_i Xg9_l2)]) (st' := [sv_i 0]) rfl ?_
            exact sv_zret C hr (by omega) (by decide +kernel) hok26 (⟨rfl, ⟨_, rfl, ⟨by omega, by omega⟩⟩⟩)
    exact L10 (((12 - 0 : Int)).toNat + 1) 0 ⟨by omega, by omega⟩ (by omega)
  · refine sv_go C.1 C.2.1 [(.iconst 0, 1)] (pc' := 17) (by decide +kernel) rfl (lv' := [(0, sv_r a), (1, sv_r (g.2.2.2.2.1 w))]) (st' := [sv_i 0]) rfl ?_
    exact sv_zret C hr (by omega) (by decide +kernel) hok4 (⟨rfl, ⟨_, rfl, ⟨by omega, by omega⟩⟩⟩)

theorem ml_X6_89 : Cond.methodLink RX6 89 yX6_quoted ∈ lw_good := sv_mem 474 (by decide +kernel) rfl
theorem co_X6_quoted : Cond.code yX6_quoted cX6_quoted 1 (some (.object "java/lang/String")) ∈ lw_good := sv_mem 476 (by decide +kernel) rfl
theorem in_X6 : Cond.initialized RX6 ∈ lw_good := sv_mem 74 (by decide +kernel) rfl
theorem st_X6_quoted : Cond.static yX6_quoted ∈ lw_good := sv_mem 475 (by decide +kernel) rfl
theorem ml_X6_93 : Cond.methodLink RX6 93 yX6_isAtStart ∈ lw_good := sv_mem 489 (by decide +kernel) rfl
theorem co_X6_isAtStart : Cond.code yX6_isAtStart cX6_isAtStart 3 (some .boolean) ∈ lw_good := sv_mem 492 (by decide +kernel) rfl
theorem im_X6_isAtStart : Cond.instanceMethod yX6_isAtStart ∈ lw_good := sv_mem 491 (by decide +kernel) rfl
theorem se_X6_isAtStart : Cond.selects RX6 yX6_isAtStart yX6_isAtStart ∈ lw_good := sv_mem 3 (by decide +kernel) rfl
set_option maxHeartbeats 4000000 in
set_option maxRecDepth 100000 in
theorem sf_X6_wordToken (l : Launch) (g : sv_G) (A : Nat → Prop) (ty : Nat → Nat) (σ : Nat → Nat → Int) (hok : sv_ok ty σ) (hTA : ∀ q, ty q ≠ 0 → A q) (hI : sv_inv sp_1 ty σ) (a : Nat) (k_a : ty a = 3) (tq : Nat) (k_tq : ty tq = 2) (cq : Nat) (k_cq : ty cq = 7) (fq : Nat) (k_fq : ty fq = 8) (pR2 : σ a 2 = (tq : Int) + 1) (pR3 : σ a 3 = (cq : Int) + 1) (pR4 : σ a 4 = (fq : Int) + 1) : sv_M l yX6_wordToken cX6_wordToken 2 (some .int) { frames := 5, cells := 0, slots := 0, locals := 107 } g A ty σ [sv_r a] (fun r σ' => σ = σ' ∧ ∃ rv : Int, r = [sv_i rv] ∧ (5 ≤ rv ∧ rv ≤ 20)) := by
  refine sv_enter (by decide) (Nat.le_of_ble_eq_true rfl) ?_
  intro p e s m args below meth c C hr
  have C : sv_C g A RX6 cX6_wordToken 2 p s m args meth c := C
  have hr : meth.sig.returnType = (some .int) := hr
  have hF : sv_ofx [] [] ty σ σ := sv_ofx.rf
  refine sv_same (st2 := []) (lv2 := [(0, sv_r a)]) rfl rfl ?_
  refine sv_go C.1 C.2.1 [(.bipush 10, 2), (.istore_n 1, 1)] (pc' := 3) (by decide +kernel) rfl (lv' := [(0, sv_r a), (1, sv_i 10)]) (st' := []) rfl ?_
  have L2 : ∀ (n : Nat) (Xg1_l1 : Int), (10 ≤ Xg1_l1 ∧ Xg1_l1 ≤ 21) → (21 - Xg1_l1) < (n : Int) → sv_E p l e { frames := 5, cells := 0, slots := 0, locals := 107 } s m args below meth c 2 g A ty (fun r σ' => σ = σ' ∧ ∃ rv : Int, r = [sv_i rv] ∧ (5 ≤ rv ∧ rv ≤ 20)) σ 3 [(0, sv_r a), (1, sv_i Xg1_l1)] [] := by
    intro n
    induction n with
    | zero => intro Xg1_l1 hXg1_l1 hmu; exact absurd hmu (by omega)
    | succ n ih3 =>
      intro Xg1_l1 hXg1_l1 hmu
      refine sv_go C.1 C.2.1 [(.iload_n 1, 1), (.bipush 20, 2)] (pc' := 6) (by decide +kernel) rfl (lv' := [(0, sv_r a), (1, sv_i Xg1_l1)]) (st' := [sv_i 20, sv_i Xg1_l1]) rfl ?_
      refine sv_icmp C.1 C.2.1 (cnd := .gt) (off := 22) (tgt := 28) (by decide +kernel) (by decide) ⟨by omega, by omega⟩ ⟨by omega, by omega⟩ (fun (h4 : 20 < Xg1_l1) => ?_) (fun (h4 : ¬ (20 < Xg1_l1)) => ?_)
      · refine sv_go C.1 C.2.1 [(.iconst 5, 1)] (pc' := 29) (by decide +kernel) rfl (lv' := [(0, sv_r a), (1, sv_i Xg1_l1)]) (st' := [sv_i 5]) rfl ?_
        exact sv_iret C hr (by decide +kernel) hok (⟨rfl, ⟨_, rfl, ⟨by omega, by omega⟩⟩⟩)
      · refine sv_go C.1 C.2.1 [(.aload_n 0, 1), (.iload_n 1, 1)] (pc' := 11) (by decide +kernel) rfl (lv' := [(0, sv_r a), (1, sv_i Xg1_l1)]) (st' := [sv_i Xg1_l1, sv_r a]) rfl ?_
        refine sv_cs C (index := 89) (k := 1) (rest := [sv_r a]) (by decide +kernel) (sf_X6_quoted l g A ty σ hok hTA hI (Xg1_l1) ⟨by omega, by omega⟩) ⟨co_X6_quoted, in_X6, ⟨by decide, by decide, by decide +kernel⟩, Nat.le_of_ble_eq_true rfl, Nat.le_of_ble_eq_true rfl⟩ ml_X6_89 st_X6_quoted rfl rfl (Nat.le_of_ble_eq_true rfl) ⟨Nat.zero_le _, Nat.zero_le _⟩ (fun r6 σ7 hpo5 hok8 => ?_)
        obtain ⟨rfl, ⟨qu9, hqu9, rfl⟩⟩ := hpo5
        refine sv_same (st2 := [sv_r (g.2.2.2.2.1 qu9), sv_r a]) (lv2 := [(0, sv_r a), (1, sv_i Xg1_l1)]) rfl rfl ?_
        refine sv_cv C (index := 93) (k := 1) (rest := []) (ci := 5) (r := (RX6, TX6, 13)) (by decide +kernel) (sf_X6_isAtStart l g A ty σ hok8 hTA hI a k_a tq k_tq cq k_cq fq k_fq qu9 hqu9 pR2 pR3 pR4) ⟨co_X6_isAtStart, in_X6, ⟨by decide, by decide, by decide +kernel⟩, Nat.le_of_ble_eq_true rfl, Nat.le_of_ble_eq_true rfl⟩ ml_X6_93 im_X6_isAtStart se_X6_isAtStart (by rw [k_a]; rfl) rfl rfl rfl (Nat.le_of_ble_eq_true rfl) ⟨Nat.zero_le _, Nat.zero_le _⟩ (fun r11 σ12 hpo10 hok13 => ?_)
        obtain ⟨rfl, ⟨vu14, rfl, hvu14⟩⟩ := hpo10
        refine sv_same (st2 := [sv_i vu14]) (lv2 := [(0, sv_r a), (1, sv_i Xg1_l1)]) rfl rfl ?_
        refine sv_if C.1 C.2.1 (cnd := .eq) (off := 5) (tgt := 22) (by decide +kernel) (by decide) ⟨by omega, by omega⟩ (fun (h15 : vu14 = 0) => ?_) (fun (h15 : ¬ (vu14 = 0)) => ?_)
        · refine sv_go C.1 C.2.1 [(.iinc 1 1, 3)] (pc' := 25) (by decide +kernel) rfl (lv' := [(0, sv_r a), (1, sv_i (Xg1_l1 + 1))]) (st' := []) rfl ?_
          refine sv_goto C.1 C.2.1 (off := (-22)) (tgt := 3) (by decide +kernel) (by decide) ?_
          exact ih3 (Xg1_l1 + 1) ⟨by omega, by omega⟩ (by omega)
        · refine sv_go C.1 C.2.1 [(.iload_n 1, 1)] (pc' := 21) (by decide +kernel) rfl (lv' := [(0, sv_r a), (1, sv_i Xg1_l1)]) (st' := [sv_i Xg1_l1]) rfl ?_
          exact sv_iret C hr (by decide +kernel) hok13 (⟨rfl, ⟨_, rfl, ⟨by omega, by omega⟩⟩⟩)
  exact L2 (((21 - 10 : Int)).toNat + 1) 10 ⟨by omega, by omega⟩ (by omega)

theorem fl_X6_58 : Cond.fieldLink RX6 58 "SaintsRoad$Tape" "length" "I" ∈ lw_good := sv_mem 110 (by decide +kernel) rfl
theorem ml_X6_71 : Cond.methodLink RX6 71 yX6_isLetter ∈ lw_good := sv_mem 463 (by decide +kernel) rfl
theorem co_X6_isLetter : Cond.code yX6_isLetter cX6_isLetter 1 (some .boolean) ∈ lw_good := sv_mem 465 (by decide +kernel) rfl
theorem st_X6_isLetter : Cond.static yX6_isLetter ∈ lw_good := sv_mem 464 (by decide +kernel) rfl
theorem ml_X6_83 : Cond.methodLink RX6 83 yX6_wordToken ∈ lw_good := sv_mem 470 (by decide +kernel) rfl
theorem co_X6_wordToken : Cond.code yX6_wordToken cX6_wordToken 2 (some .int) ∈ lw_good := sv_mem 473 (by decide +kernel) rfl
theorem im_X6_wordToken : Cond.instanceMethod yX6_wordToken ∈ lw_good := sv_mem 472 (by decide +kernel) rfl
theorem se_X6_wordToken : Cond.selects RX6 yX6_wordToken yX6_wordToken ∈ lw_good := sv_mem 2 (by decide +kernel) rfl
theorem fl_X6_48 : Cond.fieldLink RX6 48 "SaintsRoad$Reader" "token" "I" ∈ lw_good := sv_mem 132 (by decide +kernel) rfl
set_option maxHeartbeats 4000000 in
set_option maxRecDepth 100000 in
theorem sf_X6_readWord (l : Launch) (g : sv_G) (A : Nat → Prop) (ty : Nat → Nat) (σ : Nat → Nat → Int) (hok : sv_ok ty σ) (hTA : ∀ q, ty q ≠ 0 → A q) (hI : sv_inv sp_1 ty σ) (a : Nat) (k_a : ty a = 3) (tq : Nat) (k_tq : ty tq = 2) (cq : Nat) (k_cq : ty cq = 7) (fq : Nat) (k_fq : ty fq = 8) (n6 : Int) (h_n6 : 0 ≤ n6 ∧ n6 ≤ 4000) (n1 : Int) (h_n1 : 0 ≤ n1 ∧ n1 ≤ 4000) (pR2 : σ a 2 = (tq : Int) + 1) (pR3 : σ a 3 = (cq : Int) + 1) (pR4 : σ a 4 = (fq : Int) + 1) (qn6 : σ a 6 = n6) (qn1 : σ tq 1 = n1) (hle : n6 ≤ n1) : sv_M l yX6_readWord cX6_readWord 1 none { frames := 6, cells := 0, slots := 0, locals := 128 } g A ty σ [sv_r a] (fun r σ' => (r = []) ∧ sv_inv sp_1 ty σ' ∧ sv_ofx [(3, 6), (3, 7)] [] ty σ σ' ∧ σ' a 6 ≤ n1) := by
  refine sv_enter (by decide) (Nat.le_of_ble_eq_true rfl) ?_
  intro p e s m args below meth c C hr
  have C : sv_C g A RX6 cX6_readWord 1 p s m args meth c := C
  have hr : meth.sig.returnType = none := hr
  have hF : sv_ofx [(3, 6), (3, 7)] [] ty σ σ := sv_ofx.rf
  refine sv_same (st2 := []) (lv2 := [(0, sv_r a)]) rfl rfl ?_
  have J3 : ∀ (Yg1_fa_6 : Int) (σ2 : Nat → Nat → Int), (0 ≤ Yg1_fa_6 ∧ Yg1_fa_6 ≤ 4000) → (sv_ok ty σ2) → (sv_inv sp_1 ty σ2) → (sv_ofx [(3, 6), (3, 7)] [] ty σ σ2) → (σ2 a 2 = (tq : Int) + 1) → (σ2 a 3 = (cq : Int) + 1) → (σ2 a 4 = (fq : Int) + 1) → (σ2 a 6 = Yg1_fa_6) → (σ2 tq 1 = n1) → (Yg1_fa_6 ≤ n1) → sv_E p l e { frames := 6, cells := 0, slots := 0, locals := 128 } s m args below meth c 1 g A ty (fun r σ' => (r = []) ∧ sv_inv sp_1 ty σ' ∧ sv_ofx [(3, 6), (3, 7)] [] ty σ σ' ∧ σ' a 6 ≤ n1) σ2 44 [(0, sv_r a)] [] := by
    intro Yg1_fa_6 σ2 hYg1_fa_6 okσ2 Iσ2 Fσ2 eσ2_0 eσ2_1 eσ2_2 eσ2_3 eσ2_4 zy6
    refine sv_go C.1 C.2.1 [(.aload_n 0, 1), (.aload_n 0, 1)] (pc' := 46) (by decide +kernel) rfl (lv' := [(0, sv_r a)]) (st' := [sv_r a, sv_r a]) rfl ?_
    refine sv_gf C (index := 39) (ci := 5) (k := 6) (r := (RX6, TX6, 13)) (v := sv_i Yg1_fa_6) (by decide +kernel) (by rw [k_a]; rfl) rfl (by decide) fl_X6_39 (congrArg sv_i eσ2_3) ?_
    refine sv_go C.1 C.2.1 [(.aload_n 0, 1)] (pc' := 50) (by decide +kernel) rfl (lv' := [(0, sv_r a)]) (st' := [sv_r a, sv_i Yg1_fa_6, sv_r a]) rfl ?_
    obtain ⟨v4, ev4, hv4⟩ := sv_rdn Iσ2 (k := 8) k_a rfl
    refine sv_gf C (index := 55) (ci := 5) (k := 8) (r := (RX6, TX6, 13)) (v := sv_i v4) (by decide +kernel) (by rw [k_a]; rfl) rfl (by decide) fl_X6_55 (congrArg sv_i ev4) ?_
    refine sv_go C.1 C.2.1 [(.isub, 1), (.bipush 12, 2)] (pc' := 56) (by decide +kernel) rfl (lv' := [(0, sv_r a)]) (st' := [sv_i 12, sv_i (Yg1_fa_6 - v4), sv_r a]) rfl ?_
    have J7 : ∀ (Jg6_s0 : Int), (1 ≤ Jg6_s0 ∧ Jg6_s0 ≤ 20) → (Yg1_fa_6 ≤ n1) → sv_E p l e { frames := 6, cells := 0, slots := 0, locals := 128 } s m args below meth c 1 g A ty (fun r σ' => (r = []) ∧ sv_inv sp_1 ty σ' ∧ sv_ofx [(3, 6), (3, 7)] [] ty σ σ' ∧ σ' a 6 ≤ n1) σ2 67 [] [sv_i Jg6_s0, sv_r a] := by
      intro Jg6_s0 hJg6_s0 zj6
      refine sv_pf C (index := 48) (ci := 5) (k := 7) (r := (RX6, TX6, 13)) (z := Jg6_s0) (by decide +kernel) (by rw [k_a]; rfl) rfl (by decide) rfl fl_X6_48 rfl (Or.inl rfl) ⟨by omega, by omega⟩ (hTA _ (by rw [k_a]; decide)) okσ2 (fun hok8 => ?_)
      have hI10 := Iσ2.up (a := a) (k := 7) (z := Jg6_s0) (by rw [k_a]; exact ⟨by omega, by omega⟩)
      have hF11 := Fσ2.up (a := a) (k := 7) (z := Jg6_s0) (Or.inr (by rw [k_a]; decide))
      generalize eσ9 : sv_up σ2 a 7 Jg6_s0 = σ9 at hok8 hI10 hF11 ⊢
      have t12 : σ9 a 2 = (tq : Int) + 1 := by rw [← eσ9, sv_up_k (by decide)]; exact eσ2_0
      have t13 : σ9 a 3 = (cq : Int) + 1 := by rw [← eσ9, sv_up_k (by decide)]; exact eσ2_1
      have t14 : σ9 a 4 = (fq : Int) + 1 := by rw [← eσ9, sv_up_k (by decide)]; exact eσ2_2
      have t15 : σ9 a 6 = Yg1_fa_6 := by rw [← eσ9, sv_up_k (by decide)]; exact eσ2_3
      have t16 : σ9 tq 1 = n1 := by rw [← eσ9, sv_up_a (sv_ne k_tq k_a (by decide))]; exact eσ2_4
      have t17 : σ9 a 8 = v4 := by rw [← eσ9, sv_up_k (by decide)]; exact ev4
      have t18 : σ9 a 7 = Jg6_s0 := by rw [← eσ9]; exact sv_up_s _ _ _ _
      exact sv_vret C hr (by decide +kernel) hok8 (⟨rfl, hI10, hF11, by rw [t15]; omega⟩)
    refine sv_icmp C.1 C.2.1 (cnd := .le) (off := 7) (tgt := 63) (by decide +kernel) (by decide) ⟨by omega, by omega⟩ ⟨by omega, by omega⟩ (fun (h5 : (Yg1_fa_6 - v4) ≤ 12) => ?_) (fun (h5 : ¬ ((Yg1_fa_6 - v4) ≤ 12)) => ?_)
    · refine sv_go C.1 C.2.1 [(.aload_n 0, 1)] (pc' := 64) (by decide +kernel) rfl (lv' := [(0, sv_r a)]) (st' := [sv_r a, sv_r a]) rfl ?_
      refine sv_cv C (index := 83) (k := 0) (rest := [sv_r a]) (ci := 5) (r := (RX6, TX6, 13)) (by decide +kernel) (sf_X6_wordToken l g A ty σ2 okσ2 hTA Iσ2 a k_a tq k_tq cq k_cq fq k_fq eσ2_0 eσ2_1 eσ2_2) ⟨co_X6_wordToken, in_X6, ⟨by decide, by decide, by decide +kernel⟩, Nat.le_of_ble_eq_true rfl, Nat.le_of_ble_eq_true rfl⟩ ml_X6_83 im_X6_wordToken se_X6_wordToken (by rw [k_a]; rfl) rfl rfl rfl (Nat.le_of_ble_eq_true rfl) ⟨Nat.zero_le _, Nat.zero_le _⟩ (fun r20 σ21 hpo19 hok22 => ?_)
      obtain ⟨rfl, ⟨vu23, rfl, hvu23⟩⟩ := hpo19
      refine sv_same (st2 := [sv_i vu23, sv_r a]) (lv2 := [(0, sv_r a)]) rfl rfl ?_
      refine sv_pick [] (lv2 := []) rfl ?_
      exact J7 vu23 ⟨by omega, by omega⟩ (by omega)
    · refine sv_go C.1 C.2.1 [(.iconst 1, 1)] (pc' := 60) (by decide +kernel) rfl (lv' := [(0, sv_r a)]) (st' := [sv_i 1, sv_r a]) rfl ?_
      refine sv_goto C.1 C.2.1 (off := 7) (tgt := 67) (by decide +kernel) (by decide) ?_
      refine sv_pick [] (lv2 := []) rfl ?_
      exact J7 1 ⟨by omega, by omega⟩ (by omega)
  have L26 : ∀ (n : Nat) (Xg24_fa_6 : Int) (σ25 : Nat → Nat → Int), (0 ≤ Xg24_fa_6 ∧ Xg24_fa_6 ≤ 4000) → (sv_ok ty σ25) → (sv_inv sp_1 ty σ25) → (sv_ofx [(3, 6), (3, 7)] [] ty σ σ25) → (σ25 a 2 = (tq : Int) + 1) → (σ25 a 3 = (cq : Int) + 1) → (σ25 a 4 = (fq : Int) + 1) → (σ25 a 6 = Xg24_fa_6) → (σ25 tq 1 = n1) → (Xg24_fa_6 ≤ n1) → (4000 - Xg24_fa_6) < (n : Int) → sv_E p l e { frames := 6, cells := 0, slots := 0, locals := 128 } s m args below meth c 1 g A ty (fun r σ' => (r = []) ∧ sv_inv sp_1 ty σ' ∧ sv_ofx [(3, 6), (3, 7)] [] ty σ σ' ∧ σ' a 6 ≤ n1) σ25 0 [(0, sv_r a)] [] := by
    intro n
    induction n with
    | zero => intro Xg24_fa_6 σ25 hXg24_fa_6 okσ25 Iσ25 Fσ25 eσ25_0 eσ25_1 eσ25_2 eσ25_3 eσ25_4 zw6 hmu; exact absurd hmu (by omega)
    | succ n ih27 =>
      intro Xg24_fa_6 σ25 hXg24_fa_6 okσ25 Iσ25 Fσ25 eσ25_0 eσ25_1 eσ25_2 eσ25_3 eσ25_4 zw6 hmu
      refine sv_go C.1 C.2.1 [(.aload_n 0, 1)] (pc' := 1) (by decide +kernel) rfl (lv' := [(0, sv_r a)]) (st' := [sv_r a]) rfl ?_
      refine sv_gf C (index := 39) (ci := 5) (k := 6) (r := (RX6, TX6, 13)) (v := sv_i Xg24_fa_6) (by decide +kernel) (by rw [k_a]; rfl) rfl (by decide) fl_X6_39 (congrArg sv_i eσ25_3) ?_
      refine sv_go C.1 C.2.1 [(.aload_n 0, 1)] (pc' := 5) (by decide +kernel) rfl (lv' := [(0, sv_r a)]) (st' := [sv_r a, sv_i Xg24_fa_6]) rfl ?_
      refine sv_gf C (index := 15) (ci := 5) (k := 2) (r := (RX6, TX6, 13)) (v := sv_r tq) (by decide +kernel) (by rw [k_a]; rfl) rfl (by decide) fl_X6_15 (congrArg sv_a eσ25_0) ?_
      refine sv_gf C (index := 58) (ci := 6) (k := 1) (r := (RX7, TX7, 2)) (v := sv_i n1) (by decide +kernel) (by rw [k_tq]; rfl) rfl (by decide) fl_X6_58 (congrArg sv_i eσ25_4) ?_
      refine sv_icmp C.1 C.2.1 (cnd := .ge) (off := 33) (tgt := 44) (by decide +kernel) (by decide) ⟨by omega, by omega⟩ ⟨by omega, by omega⟩ (fun (h28 : n1 ≤ Xg24_fa_6) => ?_) (fun (h28 : ¬ (n1 ≤ Xg24_fa_6)) => ?_)
      · exact J3 Xg24_fa_6 σ25 ⟨by omega, by omega⟩ okσ25 Iσ25 Fσ25 eσ25_0 eσ25_1 eσ25_2 eσ25_3 eσ25_4 (by omega)
      · refine sv_go C.1 C.2.1 [(.aload_n 0, 1)] (pc' := 15) (by decide +kernel) rfl (lv' := [(0, sv_r a)]) (st' := [sv_r a]) rfl ?_
        refine sv_gf C (index := 15) (ci := 5) (k := 2) (r := (RX6, TX6, 13)) (v := sv_r tq) (by decide +kernel) (by rw [k_a]; rfl) rfl (by decide) fl_X6_15 (congrArg sv_a eσ25_0) ?_
        refine sv_go C.1 C.2.1 [(.aload_n 0, 1)] (pc' := 19) (by decide +kernel) rfl (lv' := [(0, sv_r a)]) (st' := [sv_r a, sv_r tq]) rfl ?_
        refine sv_gf C (index := 39) (ci := 5) (k := 6) (r := (RX6, TX6, 13)) (v := sv_i Xg24_fa_6) (by decide +kernel) (by rw [k_a]; rfl) rfl (by decide) fl_X6_39 (congrArg sv_i eσ25_3) ?_
        refine sv_cv C (index := 63) (k := 1) (rest := []) (ci := 6) (r := (RX7, TX7, 2)) (by decide +kernel) (sf_X7_byteAt l g A ty σ25 okσ25 hTA Iσ25 tq k_tq (Xg24_fa_6) ⟨by omega, by omega⟩) ⟨co_X7_byteAt, in_X7, ⟨by decide, by decide, by decide +kernel⟩, Nat.le_of_ble_eq_true rfl, Nat.le_of_ble_eq_true rfl⟩ ml_X6_63 im_X7_byteAt se_X7_byteAt (by rw [k_tq]; rfl) rfl rfl rfl (Nat.le_of_ble_eq_true rfl) ⟨Nat.zero_le _, Nat.zero_le _⟩ (fun r30 σ31 hpo29 hok32 => ?_)
        obtain ⟨rfl, ⟨vu33, rfl, hvu33, ivu33_0⟩⟩ := hpo29
        refine sv_same (st2 := [sv_i vu33]) (lv2 := [(0, sv_r a)]) rfl rfl ?_
        refine sv_cs C (index := 71) (k := 1) (rest := []) (by decide +kernel) (sf_X6_isLetter l g A ty σ25 hok32 hTA Iσ25 (vu33) ⟨by omega, by omega⟩) ⟨co_X6_isLetter, in_X6, ⟨by decide, by decide, by decide +kernel⟩, Nat.le_of_ble_eq_true rfl, Nat.le_of_ble_eq_true rfl⟩ ml_X6_71 st_X6_isLetter rfl rfl (Nat.le_of_ble_eq_true rfl) ⟨Nat.zero_le _, Nat.zero_le _⟩ (fun r35 σ36 hpo34 hok37 => ?_)
        obtain ⟨rfl, ⟨vu38, rfl, hvu38, ivu38_0⟩⟩ := hpo34
        refine sv_same (st2 := [sv_i vu38]) (lv2 := [(0, sv_r a)]) rfl rfl ?_
        refine sv_if C.1 C.2.1 (cnd := .eq) (off := 16) (tgt := 44) (by decide +kernel) (by decide) ⟨by omega, by omega⟩ (fun (h39 : vu38 = 0) => ?_) (fun (h39 : ¬ (vu38 = 0)) => ?_)
        · exact J3 Xg24_fa_6 σ25 ⟨by omega, by omega⟩ hok37 Iσ25 Fσ25 eσ25_0 eσ25_1 eσ25_2 eσ25_3 eσ25_4 (by omega)
        · have hp40 := ivu38_0 (by omega) (by omega)
          refine sv_go C.1 C.2.1 [(.aload_n 0, 1), (.dup, 1)] (pc' := 33) (by decide +kernel) rfl (lv' := [(0, sv_r a)]) (st' := [sv_r a, sv_r a]) rfl ?_
          refine sv_gf C (index := 39) (ci := 5) (k := 6) (r := (RX6, TX6, 13)) (v := sv_i Xg24_fa_6) (by decide +kernel) (by rw [k_a]; rfl) rfl (by decide) fl_X6_39 (congrArg sv_i eσ25_3) ?_
          refine sv_go C.1 C.2.1 [(.iconst 1, 1), (.iadd, 1)] (pc' := 38) (by decide +kernel) rfl (lv' := [(0, sv_r a)]) (st' := [sv_i (Xg24_fa_6 + 1), sv_r a]) rfl ?_
          refine sv_pf C (index := 39) (ci := 5) (k := 6) (r := (RX6, TX6, 13)) (z := Xg24_fa_6 + 1) (by decide +kernel) (by rw [k_a]; rfl) rfl (by decide) rfl fl_X6_39 rfl (Or.inl rfl) ⟨by omega, by omega⟩ (hTA _ (by rw [k_a]; decide)) hok37 (fun hok41 => ?_)
          have hI43 := Iσ25.up (a := a) (k := 6) (z := Xg24_fa_6 + 1) (by rw [k_a]; exact ⟨by omega, by omega⟩)
          have hF44 := Fσ25.up (a := a) (k := 6) (z := Xg24_fa_6 + 1) (Or.inr (by rw [k_a]; decide))
          generalize eσ42 : sv_up σ25 a 6 (Xg24_fa_6 + 1) = σ42 at hok41 hI43 hF44 ⊢
          have t45 : σ42 a 2 = (tq : Int) + 1 := by rw [← eσ42, sv_up_k (by decide)]; exact eσ25_0
          have t46 : σ42 a 3 = (cq : Int) + 1 := by rw [← eσ42, sv_up_k (by decide)]; exact eσ25_1
          have t47 : σ42 a 4 = (fq : Int) + 1 := by rw [← eσ42, sv_up_k (by decide)]; exact eσ25_2
          have t48 : σ42 tq 1 = n1 := by rw [← eσ42, sv_up_a (sv_ne k_tq k_a (by decide))]; exact eσ25_4
          have t49 : σ42 a 6 = Xg24_fa_6 + 1 := by rw [← eσ42]; exact sv_up_s _ _ _ _
          refine sv_goto C.1 C.2.1 (off := (-41)) (tgt := 0) (by decide +kernel) (by decide) ?_
          exact ih27 (Xg24_fa_6 + 1) σ42 ⟨by omega, by omega⟩ hok41 hI43 hF44 t45 t46 t47 t49 t48 (by omega) (by omega)
  exact L26 (((4000 - n6 : Int)).toNat + 1) n6 σ ⟨by omega, by omega⟩ hok hI hF pR2 pR3 pR4 qn6 qn1 (by omega) (by omega)

theorem fl_X6_86 : Cond.fieldLink RX6 86 "SaintsRoad$Reader" "value" "I" ∈ lw_good := sv_mem 134 (by decide +kernel) rfl
theorem ml_X6_77 : Cond.methodLink RX6 77 yX6_isDigit ∈ lw_good := sv_mem 541 (by decide +kernel) rfl
theorem co_X6_isDigit : Cond.code yX6_isDigit cX6_isDigit 1 (some .boolean) ∈ lw_good := sv_mem 543 (by decide +kernel) rfl
theorem st_X6_isDigit : Cond.static yX6_isDigit ∈ lw_good := sv_mem 542 (by decide +kernel) rfl
set_option maxHeartbeats 4000000 in
set_option maxRecDepth 100000 in
theorem sf_X6_readNumber (l : Launch) (g : sv_G) (A : Nat → Prop) (ty : Nat → Nat) (σ : Nat → Nat → Int) (hok : sv_ok ty σ) (hTA : ∀ q, ty q ≠ 0 → A q) (hI : sv_inv sp_1 ty σ) (a : Nat) (k_a : ty a = 3) (tq : Nat) (k_tq : ty tq = 2) (cq : Nat) (k_cq : ty cq = 7) (fq : Nat) (k_fq : ty fq = 8) (n6 : Int) (h_n6 : 0 ≤ n6 ∧ n6 ≤ 4000) (n1 : Int) (h_n1 : 0 ≤ n1 ∧ n1 ≤ 4000) (pR2 : σ a 2 = (tq : Int) + 1) (pR3 : σ a 3 = (cq : Int) + 1) (pR4 : σ a 4 = (fq : Int) + 1) (qn6 : σ a 6 = n6) (qn1 : σ tq 1 = n1) (hle : n6 ≤ n1) : sv_M l yX6_readNumber cX6_readNumber 1 none { frames := 1, cells := 0, slots := 0, locals := 21 } g A ty σ [sv_r a] (fun r σ' => (r = []) ∧ sv_inv sp_1 ty σ' ∧ sv_ofx [(3, 6), (3, 7), (3, 9)] [] ty σ σ' ∧ σ' a 6 ≤ n1) := by
  refine sv_enter (by decide) (Nat.le_of_ble_eq_true rfl) ?_
  intro p e s m args below meth c C hr
  have C : sv_C g A RX6 cX6_readNumber 1 p s m args meth c := C
  have hr : meth.sig.returnType = none := hr
  have hF : sv_ofx [(3, 6), (3, 7), (3, 9)] [] ty σ σ := sv_ofx.rf
  refine sv_same (st2 := []) (lv2 := [(0, sv_r a)]) rfl rfl ?_
  refine sv_go C.1 C.2.1 [(.aload_n 0, 1), (.iconst 0, 1)] (pc' := 2) (by decide +kernel) rfl (lv' := [(0, sv_r a)]) (st' := [sv_i 0, sv_r a]) rfl ?_
  refine sv_pf C (index := 86) (ci := 5) (k := 9) (r := (RX6, TX6, 13)) (z := 0) (by decide +kernel) (by rw [k_a]; rfl) rfl (by decide) rfl fl_X6_86 rfl (Or.inl rfl) ⟨by omega, by omega⟩ (hTA _ (by rw [k_a]; decide)) hok (fun hok1 => ?_)
  have hI3 := hI.up (a := a) (k := 9) (z := 0) (by rw [k_a]; exact trivial)
  have hF4 := hF.up (a := a) (k := 9) (z := 0) (Or.inr (by rw [k_a]; decide))
  generalize eσ2 : sv_up σ a 9 0 = σ2 at hok1 hI3 hF4 ⊢
  have t5 : σ2 a 2 = (tq : Int) + 1 := by rw [← eσ2, sv_up_k (by decide)]; exact pR2
  have t6 : σ2 a 3 = (cq : Int) + 1 := by rw [← eσ2, sv_up_k (by decide)]; exact pR3
  have t7 : σ2 a 4 = (fq : Int) + 1 := by rw [← eσ2, sv_up_k (by decide)]; exact pR4
  have t8 : σ2 a 6 = n6 := by rw [← eσ2, sv_up_k (by decide)]; exact qn6
  have t9 : σ2 tq 1 = n1 := by rw [← eσ2, sv_up_a (sv_ne k_tq k_a (by decide))]; exact qn1
  have t10 : σ2 a 9 = 0 := by rw [← eσ2]; exact sv_up_s _ _ _ _
  have J13 : ∀ (Yg11_fa_6 : Int) (Yg11_fa_9 : Int) (σ12 : Nat → Nat → Int), (0 ≤ Yg11_fa_6 ∧ Yg11_fa_6 ≤ 4000) → ((-2147483648) ≤ Yg11_fa_9 ∧ Yg11_fa_9 ≤ 2147483647) → (sv_ok ty σ12) → (sv_inv sp_1 ty σ12) → (sv_ofx [(3, 6), (3, 7), (3, 9)] [] ty σ σ12) → (σ12 a 2 = (tq : Int) + 1) → (σ12 a 3 = (cq : Int) + 1) → (σ12 a 4 = (fq : Int) + 1) → (σ12 a 6 = Yg11_fa_6) → (σ12 tq 1 = n1) → (σ12 a 9 = Yg11_fa_9) → (Yg11_fa_6 ≤ n1) → sv_E p l e { frames := 1, cells := 0, slots := 0, locals := 21 } s m args below meth c 1 g A ty (fun r σ' => (r = []) ∧ sv_inv sp_1 ty σ' ∧ sv_ofx [(3, 6), (3, 7), (3, 9)] [] ty σ σ' ∧ σ' a 6 ≤ n1) σ12 75 [(0, sv_r a)] [] := by
    intro Yg11_fa_6 Yg11_fa_9 σ12 hYg11_fa_6 hYg11_fa_9 okσ12 Iσ12 Fσ12 eσ12_0 eσ12_1 eσ12_2 eσ12_3 eσ12_4 eσ12_5 zy6
    refine sv_go C.1 C.2.1 [(.aload_n 0, 1), (.aload_n 0, 1)] (pc' := 77) (by decide +kernel) rfl (lv' := [(0, sv_r a)]) (st' := [sv_r a, sv_r a]) rfl ?_
    refine sv_gf C (index := 39) (ci := 5) (k := 6) (r := (RX6, TX6, 13)) (v := sv_i Yg11_fa_6) (by decide +kernel) (by rw [k_a]; rfl) rfl (by decide) fl_X6_39 (congrArg sv_i eσ12_3) ?_
    refine sv_go C.1 C.2.1 [(.aload_n 0, 1)] (pc' := 81) (by decide +kernel) rfl (lv' := [(0, sv_r a)]) (st' := [sv_r a, sv_i Yg11_fa_6, sv_r a]) rfl ?_
    obtain ⟨v14, ev14, hv14⟩ := sv_rdn Iσ12 (k := 8) k_a rfl
    refine sv_gf C (index := 55) (ci := 5) (k := 8) (r := (RX6, TX6, 13)) (v := sv_i v14) (by decide +kernel) (by rw [k_a]; rfl) rfl (by decide) fl_X6_55 (congrArg sv_i ev14) ?_
    refine sv_go C.1 C.2.1 [(.isub, 1), (.iconst 4, 1)] (pc' := 86) (by decide +kernel) rfl (lv' := [(0, sv_r a)]) (st' := [sv_i 4, sv_i (Yg11_fa_6 - v14), sv_r a]) rfl ?_
    have J17 : ∀ (Jg16_s0 : Int), (1 ≤ Jg16_s0 ∧ Jg16_s0 ≤ 2) → (Yg11_fa_6 ≤ n1) → sv_E p l e { frames := 1, cells := 0, slots := 0, locals := 21 } s m args below meth c 1 g A ty (fun r σ' => (r = []) ∧ sv_inv sp_1 ty σ' ∧ sv_ofx [(3, 6), (3, 7), (3, 9)] [] ty σ σ' ∧ σ' a 6 ≤ n1) σ12 94 [] [sv_i Jg16_s0, sv_r a] := by
      intro Jg16_s0 hJg16_s0 zj6
      refine sv_pf C (index := 48) (ci := 5) (k := 7) (r := (RX6, TX6, 13)) (z := Jg16_s0) (by decide +kernel) (by rw [k_a]; rfl) rfl (by decide) rfl fl_X6_48 rfl (Or.inl rfl) ⟨by omega, by omega⟩ (hTA _ (by rw [k_a]; decide)) okσ12 (fun hok18 => ?_)
      have hI20 := Iσ12.up (a := a) (k := 7) (z := Jg16_s0) (by rw [k_a]; exact ⟨by omega, by omega⟩)
      have hF21 := Fσ12.up (a := a) (k := 7) (z := Jg16_s0) (Or.inr (by rw [k_a]; decide))
      generalize eσ19 : sv_up σ12 a 7 Jg16_s0 = σ19 at hok18 hI20 hF21 ⊢
      have t22 : σ19 a 2 = (tq : Int) + 1 := by rw [← eσ19, sv_up_k (by decide)]; exact eσ12_0
      have t23 : σ19 a 3 = (cq : Int) + 1 := by rw [← eσ19, sv_up_k (by decide)]; exact eσ12_1
      have t24 : σ19 a 4 = (fq : Int) + 1 := by rw [← eσ19, sv_up_k (by decide)]; exact eσ12_2
      have t25 : σ19 a 6 = Yg11_fa_6 := by rw [← eσ19, sv_up_k (by decide)]; exact eσ12_3
      have t26 : σ19 tq 1 = n1 := by rw [← eσ19, sv_up_a (sv_ne k_tq k_a (by decide))]; exact eσ12_4
      have t27 : σ19 a 9 = Yg11_fa_9 := by rw [← eσ19, sv_up_k (by decide)]; exact eσ12_5
      have t28 : σ19 a 8 = v14 := by rw [← eσ19, sv_up_k (by decide)]; exact ev14
      have t29 : σ19 a 7 = Jg16_s0 := by rw [← eσ19]; exact sv_up_s _ _ _ _
      exact sv_vret C hr (by decide +kernel) hok18 (⟨rfl, hI20, hF21, by rw [t25]; omega⟩)
    refine sv_icmp C.1 C.2.1 (cnd := .le) (off := 7) (tgt := 93) (by decide +kernel) (by decide) ⟨by omega, by omega⟩ ⟨by omega, by omega⟩ (fun (h15 : (Yg11_fa_6 - v14) ≤ 4) => ?_) (fun (h15 : ¬ ((Yg11_fa_6 - v14) ≤ 4)) => ?_)
    · refine sv_go C.1 C.2.1 [(.iconst 2, 1)] (pc' := 94) (by decide +kernel) rfl (lv' := [(0, sv_r a)]) (st' := [sv_i 2, sv_r a]) rfl ?_
      refine sv_pick [] (lv2 := []) rfl ?_
      exact J17 2 ⟨by omega, by omega⟩ (by omega)
    · refine sv_go C.1 C.2.1 [(.iconst 1, 1)] (pc' := 90) (by decide +kernel) rfl (lv' := [(0, sv_r a)]) (st' := [sv_i 1, sv_r a]) rfl ?_
      refine sv_goto C.1 C.2.1 (off := 4) (tgt := 94) (by decide +kernel) (by decide) ?_
      refine sv_pick [] (lv2 := []) rfl ?_
      exact J17 1 ⟨by omega, by omega⟩ (by omega)
  have L32 : ∀ (n : Nat) (Xg30_fa_6 : Int) (Xg30_fa_9 : Int) (σ31 : Nat → Nat → Int), (0 ≤ Xg30_fa_6 ∧ Xg30_fa_6 ≤ 4000) → ((-2147483648) ≤ Xg30_fa_9 ∧ Xg30_fa_9 ≤ 2147483647) → (sv_ok ty σ31) → (sv_inv sp_1 ty σ31) → (sv_ofx [(3, 6), (3, 7), (3, 9)] [] ty σ σ31) → (σ31 a 2 = (tq : Int) + 1) → (σ31 a 3 = (cq : Int) + 1) → (σ31 a 4 = (fq : Int) + 1) → (σ31 a 6 = Xg30_fa_6) → (σ31 tq 1 = n1) → (σ31 a 9 = Xg30_fa_9) → (Xg30_fa_6 ≤ n1) → (4000 - Xg30_fa_6) < (n : Int) → sv_E p l e { frames := 1, cells := 0, slots := 0, locals := 21 } s m args below meth c 1 g A ty (fun r σ' => (r = []) ∧ sv_inv sp_1 ty σ' ∧ sv_ofx [(3, 6), (3, 7), (3, 9)] [] ty σ σ' ∧ σ' a 6 ≤ n1) σ31 5 [(0, sv_r a)] [] := by
    intro n
    induction n with
    | zero => intro Xg30_fa_6 Xg30_fa_9 σ31 hXg30_fa_6 hXg30_fa_9 okσ31 Iσ31 Fσ31 eσ31_0 eσ31_1 eσ31_2 eσ31_3 eσ31_4 eσ31_5 zw6 hmu; exact absurd hmu (by omega)
    | succ n ih33 =>
      intro Xg30_fa_6 Xg30_fa_9 σ31 hXg30_fa_6 hXg30_fa_9 okσ31 Iσ31 Fσ31 eσ31_0 eσ31_1 eσ31_2 eσ31_3 eσ31_4 eσ31_5 zw6 hmu
      refine sv_go C.1 C.2.1 [(.aload_n 0, 1)] (pc' := 6) (by decide +kernel) rfl (lv' := [(0, sv_r a)]) (st' := [sv_r a]) rfl ?_
      refine sv_gf C (index := 39) (ci := 5) (k := 6) (r := (RX6, TX6, 13)) (v := sv_i Xg30_fa_6) (by decide +kernel) (by rw [k_a]; rfl) rfl (by decide) fl_X6_39 (congrArg sv_i eσ31_3) ?_
      refine sv_go C.1 C.2.1 [(.aload_n 0, 1)] (pc' := 10) (by decide +kernel) rfl (lv' := [(0, sv_r a)]) (st' := [sv_r a, sv_i Xg30_fa_6]) rfl ?_
      refine sv_gf C (index := 15) (ci := 5) (k := 2) (r := (RX6, TX6, 13)) (v := sv_r tq) (by decide +kernel) (by rw [k_a]; rfl) rfl (by decide) fl_X6_15 (congrArg sv_a eσ31_0) ?_
      refine sv_gf C (index := 58) (ci := 6) (k := 1) (r := (RX7, TX7, 2)) (v := sv_i n1) (by decide +kernel) (by rw [k_tq]; rfl) rfl (by decide) fl_X6_58 (congrArg sv_i eσ31_4) ?_
      refine sv_icmp C.1 C.2.1 (cnd := .ge) (off := 59) (tgt := 75) (by decide +kernel) (by decide) ⟨by omega, by omega⟩ ⟨by omega, by omega⟩ (fun (h34 : n1 ≤ Xg30_fa_6) => ?_) (fun (h34 : ¬ (n1 ≤ Xg30_fa_6)) => ?_)
      · exact J13 Xg30_fa_6 Xg30_fa_9 σ31 ⟨by omega, by omega⟩ ⟨by omega, by omega⟩ okσ31 Iσ31 Fσ31 eσ31_0 eσ31_1 eσ31_2 eσ31_3 eσ31_4 eσ31_5 (by omega)
      · refine sv_go C.1 C.2.1 [(.aload_n 0, 1)] (pc' := 20) (by decide +kernel) rfl (lv' := [(0, sv_r a)]) (st' := [sv_r a]) rfl ?_
        refine sv_gf C (index := 15) (ci := 5) (k := 2) (r := (RX6, TX6, 13)) (v := sv_r tq) (by decide +kernel) (by rw [k_a]; rfl) rfl (by decide) fl_X6_15 (congrArg sv_a eσ31_0) ?_
        refine sv_go C.1 C.2.1 [(.aload_n 0, 1)] (pc' := 24) (by decide +kernel) rfl (lv' := [(0, sv_r a)]) (st' := [sv_r a, sv_r tq]) rfl ?_
        refine sv_gf C (index := 39) (ci := 5) (k := 6) (r := (RX6, TX6, 13)) (v := sv_i Xg30_fa_6) (by decide +kernel) (by rw [k_a]; rfl) rfl (by decide) fl_X6_39 (congrArg sv_i eσ31_3) ?_
        refine sv_cv C (index := 63) (k := 1) (rest := []) (ci := 6) (r := (RX7, TX7, 2)) (by decide +kernel) (sf_X7_byteAt l g A ty σ31 okσ31 hTA Iσ31 tq k_tq (Xg30_fa_6) ⟨by omega, by omega⟩) ⟨co_X7_byteAt, in_X7, ⟨by decide, by decide, by decide +kernel⟩, Nat.le_of_ble_eq_true rfl, Nat.le_of_ble_eq_true rfl⟩ ml_X6_63 im_X7_byteAt se_X7_byteAt (by rw [k_tq]; rfl) rfl rfl rfl (Nat.le_of_ble_eq_true rfl) ⟨Nat.zero_le _, Nat.zero_le _⟩ (fun r36 σ37 hpo35 hok38 => ?_)
        obtain ⟨rfl, ⟨vu39, rfl, hvu39, ivu39_0⟩⟩ := hpo35
        refine sv_same (st2 := [sv_i vu39]) (lv2 := [(0, sv_r a)]) rfl rfl ?_
        refine sv_cs C (index := 77) (k := 1) (rest := []) (by decide +kernel) (sf_X6_isDigit l g A ty σ31 hok38 hTA Iσ31 (vu39) ⟨by omega, by omega⟩) ⟨co_X6_isDigit, in_X6, ⟨by decide, by decide, by decide +kernel⟩, Nat.le_of_ble_eq_true rfl, Nat.le_of_ble_eq_true rfl⟩ ml_X6_77 st_X6_isDigit rfl rfl (Nat.le_of_ble_eq_true rfl) ⟨Nat.zero_le _, Nat.zero_le _⟩ (fun r41 σ42 hpo40 hok43 => ?_)
        obtain ⟨rfl, ⟨vu44, rfl, hvu44, ivu44_0⟩⟩ := hpo40
        refine sv_same (st2 := [sv_i vu44]) (lv2 := [(0, sv_r a)]) rfl rfl ?_
        refine sv_if C.1 C.2.1 (cnd := .eq) (off := 42) (tgt := 75) (by decide +kernel) (by decide) ⟨by omega, by omega⟩ (fun (h45 : vu44 = 0) => ?_) (fun (h45 : ¬ (vu44 = 0)) => ?_)
        · exact J13 Xg30_fa_6 Xg30_fa_9 σ31 ⟨by omega, by omega⟩ ⟨by omega, by omega⟩ hok43 Iσ31 Fσ31 eσ31_0 eσ31_1 eσ31_2 eσ31_3 eσ31_4 eσ31_5 (by omega)
        · have hp46 := ivu44_0 (by omega) (by omega)
          refine sv_go C.1 C.2.1 [(.aload_n 0, 1), (.bipush 10, 2), (.aload_n 0, 1)] (pc' := 40) (by decide +kernel) rfl (lv' := [(0, sv_r a)]) (st' := [sv_r a, sv_i 10, sv_r a]) rfl ?_
          refine sv_gf C (index := 86) (ci := 5) (k := 9) (r := (RX6, TX6, 13)) (v := sv_i Xg30_fa_9) (by decide +kernel) (by rw [k_a]; rfl) rfl (by decide) fl_X6_86 (congrArg sv_i eσ31_5) ?_
          refine sv_go C.1 C.2.1 [(.imul, 1), (.aload_n 0, 1)] (pc' := 45) (by decide +kernel) rfl (lv' := [(0, sv_r a)]) (st' := [sv_r a, sv_i (10 * Xg30_fa_9), sv_r a]) rfl ?_
          refine sv_gf C (index := 15) (ci := 5) (k := 2) (r := (RX6, TX6, 13)) (v := sv_r tq) (by decide +kernel) (by rw [k_a]; rfl) rfl (by decide) fl_X6_15 (congrArg sv_a eσ31_0) ?_
          refine sv_go C.1 C.2.1 [(.aload_n 0, 1)] (pc' := 49) (by decide +kernel) rfl (lv' := [(0, sv_r a)]) (st' := [sv_r a, sv_r tq, sv_i (10 * Xg30_fa_9), sv_r a]) rfl ?_
          refine sv_gf C (index := 39) (ci := 5) (k := 6) (r := (RX6, TX6, 13)) (v := sv_i Xg30_fa_6) (by decide +kernel) (by rw [k_a]; rfl) rfl (by decide) fl_X6_39 (congrArg sv_i eσ31_3) ?_
          refine sv_cv C (index := 63) (k := 1) (rest := [sv_i (10 * Xg30_fa_9), sv_r a]) (ci := 6) (r := (RX7, TX7, 2)) (by decide +kernel) (sf_X7_byteAt l g A ty σ31 hok43 hTA Iσ31 tq k_tq (Xg30_fa_6) ⟨by omega, by omega⟩) ⟨co_X7_byteAt, in_X7, ⟨by decide, by decide, by decide +kernel⟩, Nat.le_of_ble_eq_true rfl, Nat.le_of_ble_eq_true rfl⟩ ml_X6_63 im_X7_byteAt se_X7_byteAt (by rw [k_tq]; rfl) rfl rfl rfl (Nat.le_of_ble_eq_true rfl) ⟨Nat.zero_le _, Nat.zero_le _⟩ (fun r48 σ49 hpo47 hok50 => ?_)
          obtain ⟨rfl, ⟨vu51, rfl, hvu51, ivu51_0⟩⟩ := hpo47
          have hp52 := ivu39_0 (by omega) (by omega)
          refine sv_same (st2 := [sv_i vu51, sv_i (10 * Xg30_fa_9), sv_r a]) (lv2 := [(0, sv_r a)]) rfl rfl ?_
          refine sv_go C.1 C.2.1 [(.iadd, 1), (.bipush 48, 2), (.isub, 1)] (pc' := 59) (by decide +kernel) rfl (lv' := [(0, sv_r a)]) (st' := [sv_i (((10 * Xg30_fa_9) + vu51) - 48), sv_r a]) rfl ?_
          obtain ⟨w53, hw53, ew53⟩ := sv_wr (((10 * Xg30_fa_9) + vu51) - 48)
          refine sv_sameD (st2 := [sv_i w53, sv_r a]) (lv2 := [(0, sv_r a)]) (by simp only [List.map_cons, List.map_nil, sv_den_i, ew53]) rfl ?_
          refine sv_pf C (index := 86) (ci := 5) (k := 9) (r := (RX6, TX6, 13)) (z := w53) (by decide +kernel) (by rw [k_a]; rfl) rfl (by decide) rfl fl_X6_86 rfl (Or.inl rfl) ⟨by omega, by omega⟩ (hTA _ (by rw [k_a]; decide)) hok50 (fun hok54 => ?_)
          have hI56 := Iσ31.up (a := a) (k := 9) (z := w53) (by rw [k_a]; exact trivial)
          have hF57 := Fσ31.up (a := a) (k := 9) (z := w53) (Or.inr (by rw [k_a]; decide))
          generalize eσ55 : sv_up σ31 a 9 w53 = σ55 at hok54 hI56 hF57 ⊢
          have t58 : σ55 a 2 = (tq : Int) + 1 := by rw [← eσ55, sv_up_k (by decide)]; exact eσ31_0
          have t59 : σ55 a 3 = (cq : Int) + 1 := by rw [← eσ55, sv_up_k (by decide)]; exact eσ31_1
          have t60 : σ55 a 4 = (fq : Int) + 1 := by rw [← eσ55, sv_up_k (by decide)]; exact eσ31_2
          have t61 : σ55 a 6 = Xg30_fa_6 := by rw [← eσ55, sv_up_k (by decide)]; exact eσ31_3
          have t62 : σ55 tq 1 = n1 := by rw [← eσ55, sv_up_a (sv_ne k_tq k_a (by decide))]; exact eσ31_4
          have t63 : σ55 a 9 = w53 := by rw [← eσ55]; exact sv_up_s _ _ _ _
          refine sv_go C.1 C.2.1 [(.aload_n 0, 1), (.dup, 1)] (pc' := 64) (by decide +kernel) rfl (lv' := [(0, sv_r a)]) (st' := [sv_r a, sv_r a]) rfl ?_
          refine sv_gf C (index := 39) (ci := 5) (k := 6) (r := (RX6, TX6, 13)) (v := sv_i Xg30_fa_6) (by decide +kernel) (by rw [k_a]; rfl) rfl (by decide) fl_X6_39 (congrArg sv_i t61) ?_
          refine sv_go C.1 C.2.1 [(.iconst 1, 1), (.iadd, 1)] (pc' := 69) (by decide +kernel) rfl (lv' := [(0, sv_r a)]) (st' := [sv_i (Xg30_fa_6 + 1), sv_r a]) rfl ?_
          refine sv_pf C (index := 39) (ci := 5) (k := 6) (r := (RX6, TX6, 13)) (z := Xg30_fa_6 + 1) (by decide +kernel) (by rw [k_a]; rfl) rfl (by decide) rfl fl_X6_39 rfl (Or.inl rfl) ⟨by omega, by omega⟩ (hTA _ (by rw [k_a]; decide)) hok54 (fun hok64 => ?_)
          have hI66 := hI56.up (a := a) (k := 6) (z := Xg30_fa_6 + 1) (by rw [k_a]; exact ⟨by omega, by omega⟩)
          have hF67 := hF57.up (a := a) (k := 6) (z := Xg30_fa_6 + 1) (Or.inr (by rw [k_a]; decide))
          generalize eσ65 : sv_up σ55 a 6 (Xg30_fa_6 + 1) = σ65 at hok64 hI66 hF67 ⊢
          have t68 : σ65 a 2 = (tq : Int) + 1 := by rw [← eσ65, sv_up_k (by decide)]; exact t58
          have t69 : σ65 a 3 = (cq : Int) + 1 := by rw [← eσ65, sv_up_k (by decide)]; exact t59
          have t70 : σ65 a 4 = (fq : Int) + 1 := by rw [← eσ65, sv_up_k (by decide)]; exact t60
          have t71 : σ65 tq 1 = n1 := by rw [← eσ65, sv_up_a (sv_ne k_tq k_a (by decide))]; exact t62
          have t72 : σ65 a 9 = w53 := by rw [← eσ65, sv_up_k (by decide)]; exact t63
          have t73 : σ65 a 6 = Xg30_fa_6 + 1 := by rw [← eσ65]; exact sv_up_s _ _ _ _
          refine sv_goto C.1 C.2.1 (off := (-67)) (tgt := 5) (by decide +kernel) (by decide) ?_
          exact ih33 (Xg30_fa_6 + 1) w53 σ65 ⟨by omega, by omega⟩ ⟨by omega, by omega⟩ hok64 hI66 hF67 t68 t69 t70 t73 t71 t72 (by omega) (by omega)
  exact L32 (((4000 - n6 : Int)).toNat + 1) n6 0 σ2 ⟨by omega, by omega⟩ ⟨by omega, by omega⟩ hok1 hI3 hF4 t5 t6 t7 t8 t9 t10 (by omega) (by omega)

theorem ml_X6_67 : Cond.methodLink RX6 67 yX6_isBlank ∈ lw_good := sv_mem 460 (by decide +kernel) rfl
theorem co_X6_isBlank : Cond.code yX6_isBlank cX6_isBlank 1 (some .boolean) ∈ lw_good := sv_mem 462 (by decide +kernel) rfl
theorem st_X6_isBlank : Cond.static yX6_isBlank ∈ lw_good := sv_mem 461 (by decide +kernel) rfl
theorem ml_X6_80 : Cond.methodLink RX6 80 yX6_readNumber ∈ lw_good := sv_mem 544 (by decide +kernel) rfl
theorem co_X6_readNumber : Cond.code yX6_readNumber cX6_readNumber 1 none ∈ lw_good := sv_mem 547 (by decide +kernel) rfl
theorem im_X6_readNumber : Cond.instanceMethod yX6_readNumber ∈ lw_good := sv_mem 546 (by decide +kernel) rfl
theorem se_X6_readNumber : Cond.selects RX6 yX6_readNumber yX6_readNumber ∈ lw_good := sv_mem 4 (by decide +kernel) rfl
theorem ml_X6_74 : Cond.methodLink RX6 74 yX6_readWord ∈ lw_good := sv_mem 466 (by decide +kernel) rfl
theorem co_X6_readWord : Cond.code yX6_readWord cX6_readWord 1 none ∈ lw_good := sv_mem 469 (by decide +kernel) rfl
theorem im_X6_readWord : Cond.instanceMethod yX6_readWord ∈ lw_good := sv_mem 468 (by decide +kernel) rfl
theorem se_X6_readWord : Cond.selects RX6 yX6_readWord yX6_readWord ∈ lw_good := sv_mem 1 (by decide +kernel) rfl
set_option maxHeartbeats 4000000 in
set_option maxRecDepth 100000 in
theorem sf_X6_readToken (l : Launch) (g : sv_G) (A : Nat → Prop) (ty : Nat → Nat) (σ : Nat → Nat → Int) (hok : sv_ok ty σ) (hTA : ∀ q, ty q ≠ 0 → A q) (hI : sv_inv sp_1 ty σ) (a : Nat) (k_a : ty a = 3) (tq : Nat) (k_tq : ty tq = 2) (cq : Nat) (k_cq : ty cq = 7) (fq : Nat) (k_fq : ty fq = 8) (n6 : Int) (h_n6 : 0 ≤ n6 ∧ n6 ≤ 4000) (n1 : Int) (h_n1 : 0 ≤ n1 ∧ n1 ≤ 4000) (pR2 : σ a 2 = (tq : Int) + 1) (pR3 : σ a 3 = (cq : Int) + 1) (pR4 : σ a 4 = (fq : Int) + 1) (qn6 : σ a 6 = n6) (qn1 : σ tq 1 = n1) (hle : n6 ≤ n1) : sv_M l yX6_readToken cX6_readToken 2 none { frames := 7, cells := 0, slots := 0, locals := 148 } g A ty σ [sv_r a] (fun r σ' => (r = []) ∧ sv_inv sp_1 ty σ' ∧ sv_ofx [(3, 6), (3, 7), (3, 8), (3, 9)] [] ty σ σ' ∧ σ' a 6 ≤ n1) := by
  refine sv_enter (by decide) (Nat.le_of_ble_eq_true rfl) ?_
  intro p e s m args below meth c C hr
  have C : sv_C g A RX6 cX6_readToken 2 p s m args meth c := C
  have hr : meth.sig.returnType = none := hr
  have hF : sv_ofx [(3, 6), (3, 7), (3, 8), (3, 9)] [] ty σ σ := sv_ofx.rf
  refine sv_same (st2 := []) (lv2 := [(0, sv_r a)]) rfl rfl ?_
  have J3 : ∀ (Yg1_fa_6 : Int) (σ2 : Nat → Nat → Int), (0 ≤ Yg1_fa_6 ∧ Yg1_fa_6 ≤ 4000) → (sv_ok ty σ2) → (sv_inv sp_1 ty σ2) → (sv_ofx [(3, 6), (3, 7), (3, 8), (3, 9)] [] ty σ σ2) → (σ2 a 2 = (tq : Int) + 1) → (σ2 a 3 = (cq : Int) + 1) → (σ2 a 4 = (fq : Int) + 1) → (σ2 a 6 = Yg1_fa_6) → (σ2 tq 1 = n1) → (Yg1_fa_6 ≤ n1) → sv_E p l e { frames := 7, cells := 0, slots := 0, locals := 148 } s m args below meth c 2 g A ty (fun r σ' => (r = []) ∧ sv_inv sp_1 ty σ' ∧ sv_ofx [(3, 6), (3, 7), (3, 8), (3, 9)] [] ty σ σ' ∧ σ' a 6 ≤ n1) σ2 44 [(0, sv_r a)] [] := by
    intro Yg1_fa_6 σ2 hYg1_fa_6 okσ2 Iσ2 Fσ2 eσ2_0 eσ2_1 eσ2_2 eσ2_3 eσ2_4 zy6
    refine sv_go C.1 C.2.1 [(.aload_n 0, 1), (.aload_n 0, 1)] (pc' := 46) (by decide +kernel) rfl (lv' := [(0, sv_r a)]) (st' := [sv_r a, sv_r a]) rfl ?_
    refine sv_gf C (index := 39) (ci := 5) (k := 6) (r := (RX6, TX6, 13)) (v := sv_i Yg1_fa_6) (by decide +kernel) (by rw [k_a]; rfl) rfl (by decide) fl_X6_39 (congrArg sv_i eσ2_3) ?_
    refine sv_pf C (index := 55) (ci := 5) (k := 8) (r := (RX6, TX6, 13)) (z := Yg1_fa_6) (by decide +kernel) (by rw [k_a]; rfl) rfl (by decide) rfl fl_X6_55 rfl (Or.inl rfl) ⟨by omega, by omega⟩ (hTA _ (by rw [k_a]; decide)) okσ2 (fun hok4 => ?_)
    have hI6 := Iσ2.up (a := a) (k := 8) (z := Yg1_fa_6) (by rw [k_a]; exact ⟨by omega, by omega⟩)
    have hF7 := Fσ2.up (a := a) (k := 8) (z := Yg1_fa_6) (Or.inr (by rw [k_a]; decide))
    generalize eσ5 : sv_up σ2 a 8 Yg1_fa_6 = σ5 at hok4 hI6 hF7 ⊢
    have t8 : σ5 a 2 = (tq : Int) + 1 := by rw [← eσ5, sv_up_k (by decide)]; exact eσ2_0
    have t9 : σ5 a 3 = (cq : Int) + 1 := by rw [← eσ5, sv_up_k (by decide)]; exact eσ2_1
    have t10 : σ5 a 4 = (fq : Int) + 1 := by rw [← eσ5, sv_up_k (by decide)]; exact eσ2_2
    have t11 : σ5 a 6 = Yg1_fa_6 := by rw [← eσ5, sv_up_k (by decide)]; exact eσ2_3
    have t12 : σ5 tq 1 = n1 := by rw [← eσ5, sv_up_a (sv_ne k_tq k_a (by decide))]; exact eσ2_4
    have t13 : σ5 a 8 = Yg1_fa_6 := by rw [← eσ5]; exact sv_up_s _ _ _ _
    refine sv_go C.1 C.2.1 [(.aload_n 0, 1)] (pc' := 53) (by decide +kernel) rfl (lv' := [(0, sv_r a)]) (st' := [sv_r a]) rfl ?_
    refine sv_gf C (index := 15) (ci := 5) (k := 2) (r := (RX6, TX6, 13)) (v := sv_r tq) (by decide +kernel) (by rw [k_a]; rfl) rfl (by decide) fl_X6_15 (congrArg sv_a t8) ?_
    refine sv_go C.1 C.2.1 [(.aload_n 0, 1)] (pc' := 57) (by decide +kernel) rfl (lv' := [(0, sv_r a)]) (st' := [sv_r a, sv_r tq]) rfl ?_
    refine sv_gf C (index := 39) (ci := 5) (k := 6) (r := (RX6, TX6, 13)) (v := sv_i Yg1_fa_6) (by decide +kernel) (by rw [k_a]; rfl) rfl (by decide) fl_X6_39 (congrArg sv_i t11) ?_
    refine sv_cv C (index := 63) (k := 1) (rest := []) (ci := 6) (r := (RX7, TX7, 2)) (by decide +kernel) (sf_X7_byteAt l g A ty σ5 hok4 hTA hI6 tq k_tq (Yg1_fa_6) ⟨by omega, by omega⟩) ⟨co_X7_byteAt, in_X7, ⟨by decide, by decide, by decide +kernel⟩, Nat.le_of_ble_eq_true rfl, Nat.le_of_ble_eq_true rfl⟩ ml_X6_63 im_X7_byteAt se_X7_byteAt (by rw [k_tq]; rfl) rfl rfl rfl (Nat.le_of_ble_eq_true rfl) ⟨Nat.zero_le _, Nat.zero_le _⟩ (fun r15 σ16 hpo14 hok17 => ?_)
    obtain ⟨rfl, ⟨vu18, rfl, hvu18, ivu18_0⟩⟩ := hpo14
    refine sv_same (st2 := [sv_i vu18]) (lv2 := [(0, sv_r a)]) rfl rfl ?_
    refine sv_go C.1 C.2.1 [(.istore_n 1, 1), (.iload_n 1, 1), (.iconst (-1), 1)] (pc' := 66) (by decide +kernel) rfl (lv' := [(0, sv_r a), (1, sv_i vu18)]) (st' := [sv_i ((-1)), sv_i vu18]) rfl ?_
    refine sv_icmp C.1 C.2.1 (cnd := .ne) (off := 11) (tgt := 77) (by decide +kernel) (by decide) ⟨by omega, by omega⟩ ⟨by omega, by omega⟩ (fun (h19 : vu18 ≠ ((-1))) => ?_) (fun (h19 : ¬ (vu18 ≠ ((-1)))) => ?_)
    · have hp20 := ivu18_0 (by omega) (by omega)
      refine sv_go C.1 C.2.1 [(.iload_n 1, 1)] (pc' := 78) (by decide +kernel) rfl (lv' := [(0, sv_r a), (1, sv_i vu18)]) (st' := [sv_i vu18]) rfl ?_
      refine sv_cs C (index := 71) (k := 1) (rest := []) (by decide +kernel) (sf_X6_isLetter l g A ty σ5 hok17 hTA hI6 (vu18) ⟨by omega, by omega⟩) ⟨co_X6_isLetter, in_X6, ⟨by decide, by decide, by decide +kernel⟩, Nat.le_of_ble_eq_true rfl, Nat.le_of_ble_eq_true rfl⟩ ml_X6_71 st_X6_isLetter rfl rfl (Nat.le_of_ble_eq_true rfl) ⟨Nat.zero_le _, Nat.zero_le _⟩ (fun r22 σ23 hpo21 hok24 => ?_)
      obtain ⟨rfl, ⟨vu25, rfl, hvu25, ivu25_0⟩⟩ := hpo21
      refine sv_same (st2 := [sv_i vu25]) (lv2 := [(0, sv_r a), (1, sv_i vu18)]) rfl rfl ?_
      refine sv_if C.1 C.2.1 (cnd := .eq) (off := 10) (tgt := 91) (by decide +kernel) (by decide) ⟨by omega, by omega⟩ (fun (h26 : vu25 = 0) => ?_) (fun (h26 : ¬ (vu25 = 0)) => ?_)
      · refine sv_go C.1 C.2.1 [(.iload_n 1, 1)] (pc' := 92) (by decide +kernel) rfl (lv' := [(0, sv_r a), (1, sv_i vu18)]) (st' := [sv_i vu18]) rfl ?_
        refine sv_cs C (index := 77) (k := 1) (rest := []) (by decide +kernel) (sf_X6_isDigit l g A ty σ5 hok24 hTA hI6 (vu18) ⟨by omega, by omega⟩) ⟨co_X6_isDigit, in_X6, ⟨by decide, by decide, by decide +kernel⟩, Nat.le_of_ble_eq_true rfl, Nat.le_of_ble_eq_true rfl⟩ ml_X6_77 st_X6_isDigit rfl rfl (Nat.le_of_ble_eq_true rfl) ⟨Nat.zero_le _, Nat.zero_le _⟩ (fun r28 σ29 hpo27 hok30 => ?_)
        obtain ⟨rfl, ⟨vu31, rfl, hvu31, ivu31_0⟩⟩ := hpo27
        refine sv_same (st2 := [sv_i vu31]) (lv2 := [(0, sv_r a), (1, sv_i vu18)]) rfl rfl ?_
        refine sv_if C.1 C.2.1 (cnd := .eq) (off := 10) (tgt := 105) (by decide +kernel) (by decide) ⟨by omega, by omega⟩ (fun (h32 : vu31 = 0) => ?_) (fun (h32 : ¬ (vu31 = 0)) => ?_)
        · refine sv_go C.1 C.2.1 [(.aload_n 0, 1), (.dup, 1)] (pc' := 107) (by decide +kernel) rfl (lv' := [(0, sv_r a), (1, sv_i vu18)]) (st' := [sv_r a, sv_r a]) rfl ?_
          refine sv_gf C (index := 39) (ci := 5) (k := 6) (r := (RX6, TX6, 13)) (v := sv_i Yg1_fa_6) (by decide +kernel) (by rw [k_a]; rfl) rfl (by decide) fl_X6_39 (congrArg sv_i t11) ?_
          refine sv_go C.1 C.2.1 [(.iconst 1, 1), (.iadd, 1)] (pc' := 112) (by decide +kernel) rfl (lv' := [(0, sv_r a), (1, sv_i vu18)]) (st' := [sv_i (Yg1_fa_6 + 1), sv_r a]) rfl ?_
          refine sv_pf C (index := 39) (ci := 5) (k := 6) (r := (RX6, TX6, 13)) (z := Yg1_fa_6 + 1) (by decide +kernel) (by rw [k_a]; rfl) rfl (by decide) rfl fl_X6_39 rfl (Or.inl rfl) ⟨by omega, by omega⟩ (hTA _ (by rw [k_a]; decide)) hok30 (fun hok33 => ?_)
          have hI35 := hI6.up (a := a) (k := 6) (z := Yg1_fa_6 + 1) (by rw [k_a]; exact ⟨by omega, by omega⟩)
          have hF36 := hF7.up (a := a) (k := 6) (z := Yg1_fa_6 + 1) (Or.inr (by rw [k_a]; decide))
          generalize eσ34 : sv_up σ5 a 6 (Yg1_fa_6 + 1) = σ34 at hok33 hI35 hF36 ⊢
          have t37 : σ34 a 2 = (tq : Int) + 1 := by rw [← eσ34, sv_up_k (by decide)]; exact t8
          have t38 : σ34 a 3 = (cq : Int) + 1 := by rw [← eσ34, sv_up_k (by decide)]; exact t9
          have t39 : σ34 a 4 = (fq : Int) + 1 := by rw [← eσ34, sv_up_k (by decide)]; exact t10
          have t40 : σ34 tq 1 = n1 := by rw [← eσ34, sv_up_a (sv_ne k_tq k_a (by decide))]; exact t12
          have t41 : σ34 a 8 = Yg1_fa_6 := by rw [← eσ34, sv_up_k (by decide)]; exact t13
          have t42 : σ34 a 6 = Yg1_fa_6 + 1 := by rw [← eσ34]; exact sv_up_s _ _ _ _
          refine sv_go C.1 C.2.1 [(.aload_n 0, 1), (.iload_n 1, 1), (.bipush 45, 2)] (pc' := 119) (by decide +kernel) rfl (lv' := [(0, sv_r a), (1, sv_i vu18)]) (st' := [sv_i 45, sv_i vu18, sv_r a]) rfl ?_
          have J45 : ∀ (Jg44_s0 : Int), (1 ≤ Jg44_s0 ∧ Jg44_s0 ≤ 4) → (Yg1_fa_6 + 1 ≤ n1) → sv_E p l e { frames := 7, cells := 0, slots := 0, locals := 148 } s m args below meth c 2 g A ty (fun r σ' => (r = []) ∧ sv_inv sp_1 ty σ' ∧ sv_ofx [(3, 6), (3, 7), (3, 8), (3, 9)] [] ty σ σ' ∧ σ' a 6 ≤ n1) σ34 137 [] [sv_i Jg44_s0, sv_r a] := by
            intro Jg44_s0 hJg44_s0 zj6
            refine sv_pf C (index := 48) (ci := 5) (k := 7) (r := (RX6, TX6, 13)) (z := Jg44_s0) (by decide +kernel) (by rw [k_a]; rfl) rfl (by decide) rfl fl_X6_48 rfl (Or.inl rfl) ⟨by omega, by omega⟩ (hTA _ (by rw [k_a]; decide)) hok33 (fun hok46 => ?_)
            have hI48 := hI35.up (a := a) (k := 7) (z := Jg44_s0) (by rw [k_a]; exact ⟨by omega, by omega⟩)
            have hF49 := hF36.up (a := a) (k := 7) (z := Jg44_s0) (Or.inr (by rw [k_a]; decide))
            generalize eσ47 : sv_up σ34 a 7 Jg44_s0 = σ47 at hok46 hI48 hF49 ⊢
            have t50 : σ47 a 2 = (tq : Int) + 1 := by rw [← eσ47, sv_up_k (by decide)]; exact t37
            have t51 : σ47 a 3 = (cq : Int) + 1 := by rw [← eσ47, sv_up_k (by decide)]; exact t38
            have t52 : σ47 a 4 = (fq : Int) + 1 := by rw [← eσ47, sv_up_k (by decide)]; exact t39
            have t53 : σ47 tq 1 = n1 := by rw [← eσ47, sv_up_a (sv_ne k_tq k_a (by decide))]; exact t40
            have t54 : σ47 a 8 = Yg1_fa_6 := by rw [← eσ47, sv_up_k (by decide)]; exact t41
            have t55 : σ47 a 6 = Yg1_fa_6 + 1 := by rw [← eσ47, sv_up_k (by decide)]; exact t42
            have t56 : σ47 a 7 = Jg44_s0 := by rw [← eσ47]; exact sv_up_s _ _ _ _
            exact sv_vret C hr (by decide +kernel) hok46 (⟨rfl, hI48, hF49, by rw [t55]; omega⟩)
          refine sv_icmp C.1 C.2.1 (cnd := .ne) (off := 7) (tgt := 126) (by decide +kernel) (by decide) ⟨by omega, by omega⟩ ⟨by omega, by omega⟩ (fun (h43 : vu18 ≠ 45) => ?_) (fun (h43 : ¬ (vu18 ≠ 45)) => ?_)
          · refine sv_go C.1 C.2.1 [(.iload_n 1, 1), (.bipush 59, 2)] (pc' := 129) (by decide +kernel) rfl (lv' := [(0, sv_r a), (1, sv_i vu18)]) (st' := [sv_i 59, sv_i vu18, sv_r a]) rfl ?_
            refine sv_icmp C.1 C.2.1 (cnd := .ne) (off := 7) (tgt := 136) (by decide +kernel) (by decide) ⟨by omega, by omega⟩ ⟨by omega, by omega⟩ (fun (h57 : vu18 ≠ 59) => ?_) (fun (h57 : ¬ (vu18 ≠ 59)) => ?_)
            · refine sv_go C.1 C.2.1 [(.iconst 1, 1)] (pc' := 137) (by decide +kernel) rfl (lv' := [(0, sv_r a), (1, sv_i vu18)]) (st' := [sv_i 1, sv_r a]) rfl ?_
              refine sv_pick [] (lv2 := []) rfl ?_
              exact J45 1 ⟨by omega, by omega⟩ (by omega)
            · refine sv_go C.1 C.2.1 [(.iconst 4, 1)] (pc' := 133) (by decide +kernel) rfl (lv' := [(0, sv_r a), (1, sv_i vu18)]) (st' := [sv_i 4, sv_r a]) rfl ?_
              refine sv_goto C.1 C.2.1 (off := 4) (tgt := 137) (by decide +kernel) (by decide) ?_
              refine sv_pick [] (lv2 := []) rfl ?_
              exact J45 4 ⟨by omega, by omega⟩ (by omega)
          · refine sv_go C.1 C.2.1 [(.iconst 3, 1)] (pc' := 123) (by decide +kernel) rfl (lv' := [(0, sv_r a), (1, sv_i vu18)]) (st' := [sv_i 3, sv_r a]) rfl ?_
            refine sv_goto C.1 C.2.1 (off := 14) (tgt := 137) (by decide +kernel) (by decide) ?_
            refine sv_pick [] (lv2 := []) rfl ?_
            exact J45 3 ⟨by omega, by omega⟩ (by omega)
        · have hp58 := ivu31_0 (by omega) (by omega)
          refine sv_go C.1 C.2.1 [(.aload_n 0, 1)] (pc' := 99) (by decide +kernel) rfl (lv' := [(0, sv_r a), (1, sv_i vu18)]) (st' := [sv_r a]) rfl ?_
          refine sv_cv C (index := 80) (k := 0) (rest := []) (ci := 5) (r := (RX6, TX6, 13)) (by decide +kernel) (sf_X6_readNumber l g A ty σ5 hok30 hTA hI6 a k_a tq k_tq cq k_cq fq k_fq (Yg1_fa_6) ⟨by omega, by omega⟩ (n1) ⟨by omega, by omega⟩ t8 t9 t10 t11 t12 (by omega)) ⟨co_X6_readNumber, in_X6, ⟨by decide, by decide, by decide +kernel⟩, Nat.le_of_ble_eq_true rfl, Nat.le_of_ble_eq_true rfl⟩ ml_X6_80 im_X6_readNumber se_X6_readNumber (by rw [k_a]; rfl) rfl rfl rfl (Nat.le_of_ble_eq_true rfl) ⟨Nat.zero_le _, Nat.zero_le _⟩ (fun r60 σ61 hpo59 hok62 => ?_)
          obtain ⟨rfl, hIu63, hFu63, xu63⟩ := hpo59
          have hGu63 := hF7.tr hFu63 (by decide) (by decide)
          have t64 : σ61 a 2 = (tq : Int) + 1 := (hFu63.at k_a (by decide) (by decide)).trans t8
          have t65 : σ61 a 3 = (cq : Int) + 1 := (hFu63.at k_a (by decide) (by decide)).trans t9
          have t66 : σ61 a 4 = (fq : Int) + 1 := (hFu63.at k_a (by decide) (by decide)).trans t10
          have t67 : σ61 tq 1 = n1 := (hFu63.at k_tq (by decide) (by decide)).trans t12
          have t68 : σ61 a 8 = Yg1_fa_6 := (hFu63.at k_a (by decide) (by decide)).trans t13
          obtain ⟨wu63, ewu63, hwu63⟩ := sv_rdn hIu63 (k := 6) k_a rfl
          rw [ewu63] at xu63
          refine sv_same (st2 := []) (lv2 := [(0, sv_r a), (1, sv_i vu18)]) rfl rfl ?_
          refine sv_goto C.1 C.2.1 (off := 38) (tgt := 140) (by decide +kernel) (by decide) ?_
          exact sv_vret C hr (by decide +kernel) hok62 (⟨rfl, hIu63, hGu63, by rw [ewu63]; omega⟩)
      · have hp69 := ivu25_0 (by omega) (by omega)
        refine sv_go C.1 C.2.1 [(.aload_n 0, 1)] (pc' := 85) (by decide +kernel) rfl (lv' := [(0, sv_r a), (1, sv_i vu18)]) (st' := [sv_r a]) rfl ?_
        refine sv_cv C (index := 74) (k := 0) (rest := []) (ci := 5) (r := (RX6, TX6, 13)) (by decide +kernel) (sf_X6_readWord l g A ty σ5 hok24 hTA hI6 a k_a tq k_tq cq k_cq fq k_fq (Yg1_fa_6) ⟨by omega, by omega⟩ (n1) ⟨by omega, by omega⟩ t8 t9 t10 t11 t12 (by omega)) ⟨co_X6_readWord, in_X6, ⟨by decide, by decide, by decide +kernel⟩, Nat.le_of_ble_eq_true rfl, Nat.le_of_ble_eq_true rfl⟩ ml_X6_74 im_X6_readWord se_X6_readWord (by rw [k_a]; rfl) rfl rfl rfl (Nat.le_of_ble_eq_true rfl) ⟨Nat.zero_le _, Nat.zero_le _⟩ (fun r71 σ72 hpo70 hok73 => ?_)
        obtain ⟨rfl, hIu74, hFu74, xu74⟩ := hpo70
        have hGu74 := hF7.tr hFu74 (by decide) (by decide)
        have t75 : σ72 a 2 = (tq : Int) + 1 := (hFu74.at k_a (by decide) (by decide)).trans t8
        have t76 : σ72 a 3 = (cq : Int) + 1 := (hFu74.at k_a (by decide) (by decide)).trans t9
        have t77 : σ72 a 4 = (fq : Int) + 1 := (hFu74.at k_a (by decide) (by decide)).trans t10
        have t78 : σ72 tq 1 = n1 := (hFu74.at k_tq (by decide) (by decide)).trans t12
        have t79 : σ72 a 8 = Yg1_fa_6 := (hFu74.at k_a (by decide) (by decide)).trans t13
        obtain ⟨wu74, ewu74, hwu74⟩ := sv_rdn hIu74 (k := 6) k_a rfl
        rw [ewu74] at xu74
        refine sv_same (st2 := []) (lv2 := [(0, sv_r a), (1, sv_i vu18)]) rfl rfl ?_
        refine sv_goto C.1 C.2.1 (off := 52) (tgt := 140) (by decide +kernel) (by decide) ?_
        exact sv_vret C hr (by decide +kernel) hok73 (⟨rfl, hIu74, hGu74, by rw [ewu74]; omega⟩)
    · refine sv_go C.1 C.2.1 [(.aload_n 0, 1), (.iconst 0, 1)] (pc' := 71) (by decide +kernel) rfl (lv' := [(0, sv_r a), (1, sv_i vu18)]) (st' := [sv_i 0, sv_r a]) rfl ?_
      refine sv_pf C (index := 48) (ci := 5) (k := 7) (r := (RX6, TX6, 13)) (z := 0) (by decide +kernel) (by rw [k_a]; rfl) rfl (by decide) rfl fl_X6_48 rfl (Or.inl rfl) ⟨by omega, by omega⟩ (hTA _ (by rw [k_a]; decide)) hok17 (fun hok80 => ?_)
      have hI82 := hI6.up (a := a) (k := 7) (z := 0) (by rw [k_a]; exact ⟨by omega, by omega⟩)
      have hF83 := hF7.up (a := a) (k := 7) (z := 0) (Or.inr (by rw [k_a]; decide))
      generalize eσ81 : sv_up σ5 a 7 0 = σ81 at hok80 hI82 hF83 ⊢
      have t84 : σ81 a 2 = (tq : Int) + 1 := by rw [← eσ81, sv_up_k (by decide)]; exact t8
      have t85 : σ81 a 3 = (cq : Int) + 1 := by rw [← eσ81, sv_up_k (by decide)]; exact t9
      have t86 : σ81 a 4 = (fq : Int) + 1 := by rw [← eσ81, sv_up_k (by decide)]; exact t10
      have t87 : σ81 a 6 = Yg1_fa_6 := by rw [← eσ81, sv_up_k (by decide)]; exact t11
      have t88 : σ81 tq 1 = n1 := by rw [← eσ81, sv_up_a (sv_ne k_tq k_a (by decide))]; exact t12
      have t89 : σ81 a 8 = Yg1_fa_6 := by rw [← eσ81, sv_up_k (by decide)]; exact t13
      have t90 : σ81 a 7 = 0 := by rw [← eσ81]; exact sv_up_s _ _ _ _
      refine sv_goto C.1 C.2.1 (off := 66) (tgt := 140) (by decide +kernel) (by decide) ?_
      exact sv_vret C hr (by decide +kernel) hok80 (⟨rfl, hI82, hF83, by rw [t87]; omega⟩)
  have L93 : ∀ (n : Nat) (Xg91_fa_6 : Int) (σ92 : Nat → Nat → Int), (0 ≤ Xg91_fa_6 ∧ Xg91_fa_6 ≤ 4000) → (sv_ok ty σ92) → (sv_inv sp_1 ty σ92) → (sv_ofx [(3, 6), (3, 7), (3, 8), (3, 9)] [] ty σ σ92) → (σ92 a 2 = (tq : Int) + 1) → (σ92 a 3 = (cq : Int) + 1) → (σ92 a 4 = (fq : Int) + 1) → (σ92 a 6 = Xg91_fa_6) → (σ92 tq 1 = n1) → (Xg91_fa_6 ≤ n1) → (4000 - Xg91_fa_6) < (n : Int) → sv_E p l e { frames := 7, cells := 0, slots := 0, locals := 148 } s m args below meth c 2 g A ty (fun r σ' => (r = []) ∧ sv_inv sp_1 ty σ' ∧ sv_ofx [(3, 6), (3, 7), (3, 8), (3, 9)] [] ty σ σ' ∧ σ' a 6 ≤ n1) σ92 0 [(0, sv_r a)] [] := by
    intro n
    induction n with
    | zero => intro Xg91_fa_6 σ92 hXg91_fa_6 okσ92 Iσ92 Fσ92 eσ92_0 eσ92_1 eσ92_2 eσ92_3 eσ92_4 zw6 hmu; exact absurd hmu (by omega)
    | succ n ih94 =>
      intro Xg91_fa_6 σ92 hXg91_fa_6 okσ92 Iσ92 Fσ92 eσ92_0 eσ92_1 eσ92_2 eσ92_3 eσ92_4 zw6 hmu
      refine sv_go C.1 C.2.1 [(.aload_n 0, 1)] (pc' := 1) (by decide +kernel) rfl (lv' := [(0, sv_r a)]) (st' := [sv_r a]) rfl ?_
      refine sv_gf C (index := 39) (ci := 5) (k := 6) (r := (RX6, TX6, 13)) (v := sv_i Xg91_fa_6) (by decide +kernel) (by rw [k_a]; rfl) rfl (by decide) fl_X6_39 (congrArg sv_i eσ92_3) ?_
      refine sv_go C.1 C.2.1 [(.aload_n 0, 1)] (pc' := 5) (by decide +kernel) rfl (lv' := [(0, sv_r a)]) (st' := [sv_r a, sv_i Xg91_fa_6]) rfl ?_
      refine sv_gf C (index := 15) (ci := 5) (k := 2) (r := (RX6, TX6, 13)) (v := sv_r tq) (by decide +kernel) (by rw [k_a]; rfl) rfl (by decide) fl_X6_15 (congrArg sv_a eσ92_0) ?_
      refine sv_gf C (index := 58) (ci := 6) (k := 1) (r := (RX7, TX7, 2)) (v := sv_i n1) (by decide +kernel) (by rw [k_tq]; rfl) rfl (by decide) fl_X6_58 (congrArg sv_i eσ92_4) ?_
      refine sv_icmp C.1 C.2.1 (cnd := .ge) (off := 33) (tgt := 44) (by decide +kernel) (by decide) ⟨by omega, by omega⟩ ⟨by omega, by omega⟩ (fun (h95 : n1 ≤ Xg91_fa_6) => ?_) (fun (h95 : ¬ (n1 ≤ Xg91_fa_6)) => ?_)
      · exact J3 Xg91_fa_6 σ92 ⟨by omega, by omega⟩ okσ92 Iσ92 Fσ92 eσ92_0 eσ92_1 eσ92_2 eσ92_3 eσ92_4 (by omega)
      · refine sv_go C.1 C.2.1 [(.aload_n 0, 1)] (pc' := 15) (by decide +kernel) rfl (lv' := [(0, sv_r a)]) (st' := [sv_r a]) rfl ?_
        refine sv_gf C (index := 15) (ci := 5) (k := 2) (r := (RX6, TX6, 13)) (v := sv_r tq) (by decide +kernel) (by rw [k_a]; rfl) rfl (by decide) fl_X6_15 (congrArg sv_a eσ92_0) ?_
        refine sv_go C.1 C.2.1 [(.aload_n 0, 1)] (pc' := 19) (by decide +kernel) rfl (lv' := [(0, sv_r a)]) (st' := [sv_r a, sv_r tq]) rfl ?_
        refine sv_gf C (index := 39) (ci := 5) (k := 6) (r := (RX6, TX6, 13)) (v := sv_i Xg91_fa_6) (by decide +kernel) (by rw [k_a]; rfl) rfl (by decide) fl_X6_39 (congrArg sv_i eσ92_3) ?_
        refine sv_cv C (index := 63) (k := 1) (rest := []) (ci := 6) (r := (RX7, TX7, 2)) (by decide +kernel) (sf_X7_byteAt l g A ty σ92 okσ92 hTA Iσ92 tq k_tq (Xg91_fa_6) ⟨by omega, by omega⟩) ⟨co_X7_byteAt, in_X7, ⟨by decide, by decide, by decide +kernel⟩, Nat.le_of_ble_eq_true rfl, Nat.le_of_ble_eq_true rfl⟩ ml_X6_63 im_X7_byteAt se_X7_byteAt (by rw [k_tq]; rfl) rfl rfl rfl (Nat.le_of_ble_eq_true rfl) ⟨Nat.zero_le _, Nat.zero_le _⟩ (fun r97 σ98 hpo96 hok99 => ?_)
        obtain ⟨rfl, ⟨vu100, rfl, hvu100, ivu100_0⟩⟩ := hpo96
        refine sv_same (st2 := [sv_i vu100]) (lv2 := [(0, sv_r a)]) rfl rfl ?_
        refine sv_cs C (index := 67) (k := 1) (rest := []) (by decide +kernel) (sf_X6_isBlank l g A ty σ92 hok99 hTA Iσ92 (vu100) ⟨by omega, by omega⟩) ⟨co_X6_isBlank, in_X6, ⟨by decide, by decide, by decide +kernel⟩, Nat.le_of_ble_eq_true rfl, Nat.le_of_ble_eq_true rfl⟩ ml_X6_67 st_X6_isBlank rfl rfl (Nat.le_of_ble_eq_true rfl) ⟨Nat.zero_le _, Nat.zero_le _⟩ (fun r102 σ103 hpo101 hok104 => ?_)
        obtain ⟨rfl, ⟨vu105, rfl, hvu105, ivu105_0⟩⟩ := hpo101
        refine sv_same (st2 := [sv_i vu105]) (lv2 := [(0, sv_r a)]) rfl rfl ?_
        refine sv_if C.1 C.2.1 (cnd := .eq) (off := 16) (tgt := 44) (by decide +kernel) (by decide) ⟨by omega, by omega⟩ (fun (h106 : vu105 = 0) => ?_) (fun (h106 : ¬ (vu105 = 0)) => ?_)
        · exact J3 Xg91_fa_6 σ92 ⟨by omega, by omega⟩ hok104 Iσ92 Fσ92 eσ92_0 eσ92_1 eσ92_2 eσ92_3 eσ92_4 (by omega)
        · have hp107 := ivu105_0 (by omega) (by omega)
          refine sv_go C.1 C.2.1 [(.aload_n 0, 1), (.dup, 1)] (pc' := 33) (by decide +kernel) rfl (lv' := [(0, sv_r a)]) (st' := [sv_r a, sv_r a]) rfl ?_
          refine sv_gf C (index := 39) (ci := 5) (k := 6) (r := (RX6, TX6, 13)) (v := sv_i Xg91_fa_6) (by decide +kernel) (by rw [k_a]; rfl) rfl (by decide) fl_X6_39 (congrArg sv_i eσ92_3) ?_
          refine sv_go C.1 C.2.1 [(.iconst 1, 1), (.iadd, 1)] (pc' := 38) (by decide +kernel) rfl (lv' := [(0, sv_r a)]) (st' := [sv_i (Xg91_fa_6 + 1), sv_r a]) rfl ?_
          refine sv_pf C (index := 39) (ci := 5) (k := 6) (r := (RX6, TX6, 13)) (z := Xg91_fa_6 + 1) (by decide +kernel) (by rw [k_a]; rfl) rfl (by decide) rfl fl_X6_39 rfl (Or.inl rfl) ⟨by omega, by omega⟩ (hTA _ (by rw [k_a]; decide)) hok104 (fun hok108 => ?_)
          have hI110 := Iσ92.up (a := a) (k := 6) (z := Xg91_fa_6 + 1) (by rw [k_a]; exact ⟨by omega, by omega⟩)
          have hF111 := Fσ92.up (a := a) (k := 6) (z := Xg91_fa_6 + 1) (Or.inr (by rw [k_a]; decide))
          generalize eσ109 : sv_up σ92 a 6 (Xg91_fa_6 + 1) = σ109 at hok108 hI110 hF111 ⊢
          have t112 : σ109 a 2 = (tq : Int) + 1 := by rw [← eσ109, sv_up_k (by decide)]; exact eσ92_0
          have t113 : σ109 a 3 = (cq : Int) + 1 := by rw [← eσ109, sv_up_k (by decide)]; exact eσ92_1
          have t114 : σ109 a 4 = (fq : Int) + 1 := by rw [← eσ109, sv_up_k (by decide)]; exact eσ92_2
          have t115 : σ109 tq 1 = n1 := by rw [← eσ109, sv_up_a (sv_ne k_tq k_a (by decide))]; exact eσ92_4
          have t116 : σ109 a 6 = Xg91_fa_6 + 1 := by rw [← eσ109]; exact sv_up_s _ _ _ _
          refine sv_goto C.1 C.2.1 (off := (-41)) (tgt := 0) (by decide +kernel) (by decide) ?_
          exact ih94 (Xg91_fa_6 + 1) σ109 ⟨by omega, by omega⟩ hok108 hI110 hF111 t112 t113 t114 t116 t115 (by omega) (by omega)
  exact L93 (((4000 - n6 : Int)).toNat + 1) n6 σ ⟨by omega, by omega⟩ hok hI hF pR2 pR3 pR4 qn6 qn1 (by omega) (by omega)

theorem fl_X6_36 : Cond.fieldLink RX6 36 "SaintsRoad$Reader" "state" "I" ∈ lw_good := sv_mem 130 (by decide +kernel) rfl
set_option maxHeartbeats 4000000 in
set_option maxRecDepth 100000 in
theorem sf_X6_goTo (l : Launch) (g : sv_G) (A : Nat → Prop) (ty : Nat → Nat) (σ : Nat → Nat → Int) (hok : sv_ok ty σ) (hTA : ∀ q, ty q ≠ 0 → A q) (hI : sv_inv sp_1 ty σ) (a : Nat) (k_a : ty a = 3) (tq : Nat) (k_tq : ty tq = 2) (cq : Nat) (k_cq : ty cq = 7) (fq : Nat) (k_fq : ty fq = 8) (v : Int) (h_v : 0 ≤ v ∧ v ≤ 22) (pR2 : σ a 2 = (tq : Int) + 1) (pR3 : σ a 3 = (cq : Int) + 1) (pR4 : σ a 4 = (fq : Int) + 1) : sv_M l yX6_goTo cX6_goTo 2 (some .int) { frames := 0, cells := 0, slots := 0, locals := 0 } g A ty σ [sv_r a, sv_i v] (fun r σ' => (∃ rv : Int, r = [sv_i rv] ∧ (0 ≤ rv ∧ rv ≤ 0)) ∧ sv_inv sp_1 ty σ' ∧ sv_ofx [(3, 5)] [] ty σ σ' ∧ σ' a 5 = v) := by
  refine sv_enter (by decide) (Nat.le_of_ble_eq_true rfl) ?_
  intro p e s m args below meth c C hr
  have C : sv_C g A RX6 cX6_goTo 2 p s m args meth c := C
  have hr : meth.sig.returnType = (some .int) := hr
  have hF : sv_ofx [(3, 5)] [] ty σ σ := sv_ofx.rf
  refine sv_same (st2 := []) (lv2 := [(0, sv_r a), (1, sv_i v)]) rfl rfl ?_
  refine sv_go C.1 C.2.1 [(.aload_n 0, 1), (.iload_n 1, 1)] (pc' := 2) (by decide +kernel) rfl (lv' := [(0, sv_r a), (1, sv_i v)]) (st' := [sv_i v, sv_r a]) rfl ?_
  refine sv_pf C (index := 36) (ci := 5) (k := 5) (r := (RX6, TX6, 13)) (z := v) (by decide +kernel) (by rw [k_a]; rfl) rfl (by decide) rfl fl_X6_36 rfl (Or.inl rfl) ⟨by omega, by omega⟩ (hTA _ (by rw [k_a]; decide)) hok (fun hok1 => ?_)
  have hI3 := hI.up (a := a) (k := 5) (z := v) (by rw [k_a]; exact ⟨by omega, by omega⟩)
  have hF4 := hF.up (a := a) (k := 5) (z := v) (Or.inr (by rw [k_a]; decide))
  generalize eσ2 : sv_up σ a 5 v = σ2 at hok1 hI3 hF4 ⊢
  have t5 : σ2 a 2 = (tq : Int) + 1 := by rw [← eσ2, sv_up_k (by decide)]; exact pR2
  have t6 : σ2 a 3 = (cq : Int) + 1 := by rw [← eσ2, sv_up_k (by decide)]; exact pR3
  have t7 : σ2 a 4 = (fq : Int) + 1 := by rw [← eσ2, sv_up_k (by decide)]; exact pR4
  have t8 : σ2 a 5 = v := by rw [← eσ2]; exact sv_up_s _ _ _ _
  refine sv_go C.1 C.2.1 [(.iconst 0, 1)] (pc' := 6) (by decide +kernel) rfl (lv' := [(0, sv_r a), (1, sv_i v)]) (st' := [sv_i 0]) rfl ?_
  exact sv_iret C hr (by decide +kernel) hok1 (⟨⟨_, rfl, ⟨by omega, by omega⟩⟩, hI3, hF4, t8⟩)

theorem ml_X6_148 : Cond.methodLink RX6 148 yX6_goTo ∈ lw_good := sv_mem 564 (by decide +kernel) rfl
theorem co_X6_goTo : Cond.code yX6_goTo cX6_goTo 2 (some .int) ∈ lw_good := sv_mem 567 (by decide +kernel) rfl
theorem im_X6_goTo : Cond.instanceMethod yX6_goTo ∈ lw_good := sv_mem 566 (by decide +kernel) rfl
theorem se_X6_goTo : Cond.selects RX6 yX6_goTo yX6_goTo ∈ lw_good := sv_mem 8 (by decide +kernel) rfl
set_option maxHeartbeats 4000000 in
set_option maxRecDepth 100000 in
theorem sf_X6_pass (l : Launch) (g : sv_G) (A : Nat → Prop) (ty : Nat → Nat) (σ : Nat → Nat → Int) (hok : sv_ok ty σ) (hTA : ∀ q, ty q ≠ 0 → A q) (hI : sv_inv sp_1 ty σ) (a : Nat) (k_a : ty a = 3) (tq : Nat) (k_tq : ty tq = 2) (cq : Nat) (k_cq : ty cq = 7) (fq : Nat) (k_fq : ty fq = 8) (v : Int) (h_v : (-2147483648) ≤ v ∧ v ≤ 2147483647) (w : Int) (h_w : 0 ≤ w ∧ w ≤ 22) (n5 : Int) (h_n5 : 0 ≤ n5 ∧ n5 ≤ 22) (n2 : Int) (h_n2 : 0 ≤ n2 ∧ n2 ≤ 60) (pR2 : σ a 2 = (tq : Int) + 1) (pR3 : σ a 3 = (cq : Int) + 1) (pR4 : σ a 4 = (fq : Int) + 1) (qn5 : σ a 5 = n5) (qn2 : σ cq 2 = n2) (hJ : n5 = 0 ∨ n5 = 5 ∨ 18 ≤ n5 ∨ n2 ≤ 59) (hpw : w = 0 ∨ w = 5 ∨ 18 ≤ w ∨ n2 ≤ 59) : sv_M l yX6_pass cX6_pass 3 (some .int) { frames := 1, cells := 0, slots := 0, locals := 21 } g A ty σ [sv_r a, sv_i v, sv_i w] (fun r σ' => (∃ rv : Int, r = [sv_i rv] ∧ (0 ≤ rv ∧ rv ≤ 1)) ∧ sv_inv sp_1 ty σ' ∧ sv_ofx [(3, 5)] [] ty σ σ' ∧ (σ' a 5 = 0 ∨ σ' a 5 = 5 ∨ 18 ≤ σ' a 5 ∨ σ' cq 2 ≤ 59) ∧ ∃ fz : Nat, σ' a 4 = (fz : Int) + 1 ∧ ty fz = 8) := by
  refine sv_enter (by decide) (Nat.le_of_ble_eq_true rfl) ?_
  intro p e s m args below meth c C hr
  have C : sv_C g A RX6 cX6_pass 3 p s m args meth c := C
  have hr : meth.sig.returnType = (some .int) := hr
  have hF : sv_ofx [(3, 5)] [] ty σ σ := sv_ofx.rf
  refine sv_same (st2 := []) (lv2 := [(0, sv_r a), (1, sv_i v), (2, sv_i w)]) rfl rfl ?_
  refine sv_go C.1 C.2.1 [(.aload_n 0, 1)] (pc' := 1) (by decide +kernel) rfl (lv' := [(0, sv_r a), (1, sv_i v), (2, sv_i w)]) (st' := [sv_r a]) rfl ?_
  obtain ⟨v1, ev1, hv1⟩ := sv_rdn hI (k := 7) k_a rfl
  refine sv_gf C (index := 48) (ci := 5) (k := 7) (r := (RX6, TX6, 13)) (v := sv_i v1) (by decide +kernel) (by rw [k_a]; rfl) rfl (by decide) fl_X6_48 (congrArg sv_i ev1) ?_
  refine sv_go C.1 C.2.1 [(.iload_n 1, 1)] (pc' := 5) (by decide +kernel) rfl (lv' := [(0, sv_r a), (1, sv_i v), (2, sv_i w)]) (st' := [sv_i v, sv_i v1]) rfl ?_
  refine sv_icmp C.1 C.2.1 (cnd := .eq) (off := 5) (tgt := 10) (by decide +kernel) (by decide) ⟨by omega, by omega⟩ ⟨by omega, by omega⟩ (fun (h2 : v1 = v) => ?_) (fun (h2 : ¬ (v1 = v)) => ?_)
  · refine sv_go C.1 C.2.1 [(.aload_n 0, 1), (.iload_n 2, 1)] (pc' := 12) (by decide +kernel) rfl (lv' := [(0, sv_r a), (1, sv_i v), (2, sv_i w)]) (st' := [sv_i w, sv_r a]) rfl ?_
    refine sv_cv C (index := 148) (k := 1) (rest := []) (ci := 5) (r := (RX6, TX6, 13)) (by decide +kernel) (sf_X6_goTo l g A ty σ hok hTA hI a k_a tq k_tq cq k_cq fq k_fq (w) ⟨by omega, by omega⟩ pR2 pR3 pR4) ⟨co_X6_goTo, in_X6, ⟨by decide, by decide, by decide +kernel⟩, Nat.le_of_ble_eq_true rfl, Nat.le_of_ble_eq_true rfl⟩ ml_X6_148 im_X6_goTo se_X6_goTo (by rw [k_a]; rfl) rfl rfl rfl (Nat.le_of_ble_eq_true rfl) ⟨Nat.zero_le _, Nat.zero_le _⟩ (fun r4 σ5 hpo3 hok6 => ?_)
    obtain ⟨⟨vu7, rfl, hvu7⟩, hIu7, hFu7, xu7⟩ := hpo3
    have hGu7 := hF.tr hFu7 (by decide) (by decide)
    have t8 : σ5 a 2 = (tq : Int) + 1 := (hFu7.at k_a (by decide) (by decide)).trans pR2
    have t9 : σ5 a 3 = (cq : Int) + 1 := (hFu7.at k_a (by decide) (by decide)).trans pR3
    have t10 : σ5 a 4 = (fq : Int) + 1 := (hFu7.at k_a (by decide) (by decide)).trans pR4
    have t11 : σ5 cq 2 = n2 := (hFu7.at k_cq (by decide) (by decide)).trans qn2
    have t12 : σ5 a 7 = v1 := (hFu7.at k_a (by decide) (by decide)).trans ev1
    refine sv_same (st2 := [sv_i vu7]) (lv2 := [(0, sv_r a), (1, sv_i v), (2, sv_i w)]) rfl rfl ?_
    exact sv_iret C hr (by decide +kernel) hok6 (⟨⟨_, rfl, ⟨by omega, by omega⟩⟩, hIu7, hGu7, by rw [xu7, t11]; omega, fq, t10, k_fq⟩)
  · refine sv_go C.1 C.2.1 [(.iconst 1, 1)] (pc' := 9) (by decide +kernel) rfl (lv' := [(0, sv_r a), (1, sv_i v), (2, sv_i w)]) (st' := [sv_i 1]) rfl ?_
    exact sv_iret C hr (by decide +kernel) hok (⟨⟨_, rfl, ⟨by omega, by omega⟩⟩, hI, hF, by rw [qn5, qn2]; omega, fq, pR4, k_fq⟩)

theorem fl_X6_19 : Cond.fieldLink RX6 19 "SaintsRoad$Reader" "calendar" "LSaintsRoad$Calendar;" ∈ lw_good := sv_mem 128 (by decide +kernel) rfl
theorem fl_X6_161 : Cond.fieldLink RX6 161 "SaintsRoad$Calendar" "size" "I" ∈ lw_good := sv_mem 251 (by decide +kernel) rfl
theorem fl_X6_28 : Cond.fieldLink RX6 28 "SaintsRoad$Calendar" "feasts" "[LSaintsRoad$Feast;" ∈ lw_good := sv_mem 243 (by decide +kernel) rfl
theorem fl_X6_32 : Cond.fieldLink RX6 32 "SaintsRoad$Reader" "feast" "LSaintsRoad$Feast;" ∈ lw_good := sv_mem 129 (by decide +kernel) rfl
theorem ml_X6_164 : Cond.methodLink RX6 164 yX3_clear ∈ lw_good := sv_mem 560 (by decide +kernel) rfl
theorem co_X3_clear : Cond.code yX3_clear cX3_clear 2 none ∈ lw_good := sv_mem 563 (by decide +kernel) rfl
theorem im_X3_clear : Cond.instanceMethod yX3_clear ∈ lw_good := sv_mem 561 (by decide +kernel) rfl
theorem se_X3_clear : Cond.selects RX3 yX3_clear yX3_clear ∈ lw_good := sv_mem 562 (by decide +kernel) rfl
theorem fl_X6_167 : Cond.fieldLink RX6 167 "SaintsRoad$Reader" "marks" "I" ∈ lw_good := sv_mem 136 (by decide +kernel) rfl
set_option maxHeartbeats 4000000 in
set_option maxRecDepth 100000 in
theorem sf_X6_startFeast (l : Launch) (g : sv_G) (A : Nat → Prop) (ty : Nat → Nat) (σ : Nat → Nat → Int) (hok : sv_ok ty σ) (hTA : ∀ q, ty q ≠ 0 → A q) (hI : sv_inv sp_1 ty σ) (a : Nat) (k_a : ty a = 3) (tq : Nat) (k_tq : ty tq = 2) (cq : Nat) (k_cq : ty cq = 7) (fq : Nat) (k_fq : ty fq = 8) (v : Int) (h_v : (-2147483648) ≤ v ∧ v ≤ 2147483647) (w : Int) (h_w : 0 ≤ w ∧ w ≤ 22) (n5 : Int) (h_n5 : 0 ≤ n5 ∧ n5 ≤ 22) (n2 : Int) (h_n2 : 0 ≤ n2 ∧ n2 ≤ 60) (pR2 : σ a 2 = (tq : Int) + 1) (pR3 : σ a 3 = (cq : Int) + 1) (pR4 : σ a 4 = (fq : Int) + 1) (qn5 : σ a 5 = n5) (qn2 : σ cq 2 = n2) (hJ : n5 = 0 ∨ n5 = 5 ∨ 18 ≤ n5 ∨ n2 ≤ 59) : sv_M l yX6_startFeast cX6_startFeast 3 (some .int) { frames := 1, cells := 0, slots := 0, locals := 21 } g A ty σ [sv_r a, sv_i v, sv_i w] (fun r σ' => (∃ rv : Int, r = [sv_i rv] ∧ (0 ≤ rv ∧ rv ≤ 4)) ∧ sv_inv sp_1 ty σ' ∧ sv_ofx [(3, 4), (3, 5), (3, 11), (8, 2), (8, 8), (8, 9), (8, 10), (8, 11)] [] ty σ σ' ∧ (σ' a 5 = 0 ∨ σ' a 5 = 5 ∨ 18 ≤ σ' a 5 ∨ σ' cq 2 ≤ 59) ∧ ∃ fz : Nat, σ' a 4 = (fz : Int) + 1 ∧ ty fz = 8) := by
  refine sv_enter (by decide) (Nat.le_of_ble_eq_true rfl) ?_
  intro p e s m args below meth c C hr
  have C : sv_C g A RX6 cX6_startFeast 3 p s m args meth c := C
  have hr : meth.sig.returnType = (some .int) := hr
  have hF : sv_ofx [(3, 4), (3, 5), (3, 11), (8, 2), (8, 8), (8, 9), (8, 10), (8, 11)] [] ty σ σ := sv_ofx.rf
  refine sv_same (st2 := []) (lv2 := [(0, sv_r a), (1, sv_i v), (2, sv_i w)]) rfl rfl ?_
  refine sv_go C.1 C.2.1 [(.aload_n 0, 1)] (pc' := 1) (by decide +kernel) rfl (lv' := [(0, sv_r a), (1, sv_i v), (2, sv_i w)]) (st' := [sv_r a]) rfl ?_
  refine sv_gf C (index := 19) (ci := 5) (k := 3) (r := (RX6, TX6, 13)) (v := sv_r cq) (by decide +kernel) (by rw [k_a]; rfl) rfl (by decide) fl_X6_19 (congrArg sv_a pR3) ?_
  refine sv_gf C (index := 161) (ci := 1) (k := 2) (r := (RX1, TX1, 6)) (v := sv_i n2) (by decide +kernel) (by rw [k_cq]; rfl) rfl (by decide) fl_X6_161 (congrArg sv_i qn2) ?_
  refine sv_go C.1 C.2.1 [(.bipush 60, 2)] (pc' := 9) (by decide +kernel) rfl (lv' := [(0, sv_r a), (1, sv_i v), (2, sv_i w)]) (st' := [sv_i 60, sv_i n2]) rfl ?_
  refine sv_icmp C.1 C.2.1 (cnd := .lt) (off := 5) (tgt := 14) (by decide +kernel) (by decide) ⟨by omega, by omega⟩ ⟨by omega, by omega⟩ (fun (h1 : n2 < 60) => ?_) (fun (h1 : ¬ (n2 < 60)) => ?_)
  · refine sv_go C.1 C.2.1 [(.aload_n 0, 1), (.aload_n 0, 1)] (pc' := 16) (by decide +kernel) rfl (lv' := [(0, sv_r a), (1, sv_i v), (2, sv_i w)]) (st' := [sv_r a, sv_r a]) rfl ?_
    refine sv_gf C (index := 19) (ci := 5) (k := 3) (r := (RX6, TX6, 13)) (v := sv_r cq) (by decide +kernel) (by rw [k_a]; rfl) rfl (by decide) fl_X6_19 (congrArg sv_a pR3) ?_
    obtain ⟨v2, ev2, kv2⟩ := hI.ref (k := 0) k_cq rfl
    refine sv_gf C (index := 28) (ci := 1) (k := 0) (r := (RX1, TX1, 6)) (v := sv_r v2) (by decide +kernel) (by rw [k_cq]; rfl) rfl (by decide) fl_X6_28 (congrArg sv_a ev2) ?_
    refine sv_go C.1 C.2.1 [(.aload_n 0, 1)] (pc' := 23) (by decide +kernel) rfl (lv' := [(0, sv_r a), (1, sv_i v), (2, sv_i w)]) (st' := [sv_r a, sv_r v2, sv_r a]) rfl ?_
    refine sv_gf C (index := 19) (ci := 5) (k := 3) (r := (RX6, TX6, 13)) (v := sv_r cq) (by decide +kernel) (by rw [k_a]; rfl) rfl (by decide) fl_X6_19 (congrArg sv_a pR3) ?_
    refine sv_gf C (index := 161) (ci := 1) (k := 2) (r := (RX1, TX1, 6)) (v := sv_i n2) (by decide +kernel) (by rw [k_cq]; rfl) rfl (by decide) fl_X6_161 (congrArg sv_i qn2) ?_
    refine sv_aa C (N := "SaintsRoad$Feast") (by decide) (n := 60) (by decide +kernel) (by rw [kv2]; rfl) (by decide) (by omega) (by omega) ?_
    obtain ⟨v3, ev3, kv3⟩ := hI.ref (k := (n2 : Int).toNat) kv2 (by first | rfl | (show (if _ then _ else _) = _; rw [if_pos (by omega)]))
    rw [ev3]
    refine sv_pf C (index := 32) (ci := 5) (k := 4) (r := (RX6, TX6, 13)) (z := (v3 : Int) + 1) (by decide +kernel) (by rw [k_a]; rfl) rfl (by decide) rfl fl_X6_32 rfl (Or.inr (Or.inr (Or.inr (Or.inr (Or.inl ⟨_, rfl⟩))))) (show (0 : Int) ≤ _ by omega) (hTA _ (by rw [k_a]; decide)) hok (fun hok4 => ?_)
    have hI6 := hI.up (a := a) (k := 4) (z := (v3 : Int) + 1) (by rw [k_a]; exact Or.inr ⟨_, rfl, kv3⟩)
    have hF7 := hF.up (a := a) (k := 4) (z := (v3 : Int) + 1) (Or.inr (by rw [k_a]; decide))
    generalize eσ5 : sv_up σ a 4 ((v3 : Int) + 1) = σ5 at hok4 hI6 hF7 ⊢
    have t8 : σ5 a 2 = (tq : Int) + 1 := by rw [← eσ5, sv_up_k (by decide)]; exact pR2
    have t9 : σ5 a 3 = (cq : Int) + 1 := by rw [← eσ5, sv_up_k (by decide)]; exact pR3
    have t10 : σ5 a 5 = n5 := by rw [← eσ5, sv_up_k (by decide)]; exact qn5
    have t11 : σ5 cq 2 = n2 := by rw [← eσ5, sv_up_a (sv_ne k_cq k_a (by decide))]; exact qn2
    have t12 : σ5 cq 0 = (v2 : Int) + 1 := by rw [← eσ5, sv_up_a (sv_ne k_cq k_a (by decide))]; exact ev2
    have t13 : σ5 v2 (n2 : Int).toNat = (v3 : Int) + 1 := by rw [← eσ5, sv_up_a (sv_ne kv2 k_a (by decide))]; exact ev3
    have t14 : σ5 a 4 = (v3 : Int) + 1 := by rw [← eσ5]; exact sv_up_s _ _ _ _
    refine sv_go C.1 C.2.1 [(.aload_n 0, 1)] (pc' := 34) (by decide +kernel) rfl (lv' := [(0, sv_r a), (1, sv_i v), (2, sv_i w)]) (st' := [sv_r a]) rfl ?_
    refine sv_gf C (index := 32) (ci := 5) (k := 4) (r := (RX6, TX6, 13)) (v := sv_r v3) (by decide +kernel) (by rw [k_a]; rfl) rfl (by decide) fl_X6_32 (congrArg sv_a t14) ?_
    refine sv_go C.1 C.2.1 [(.iload_n 1, 1)] (pc' := 38) (by decide +kernel) rfl (lv' := [(0, sv_r a), (1, sv_i v), (2, sv_i w)]) (st' := [sv_i v, sv_r v3]) rfl ?_
    refine sv_cv C (index := 164) (k := 1) (rest := []) (ci := 2) (r := (RX3, TX3, 12)) (by decide +kernel) (sf_X3_clear l g A ty σ5 hok4 hTA hI6 v3 kv3 (v) ⟨by omega, by omega⟩) ⟨co_X3_clear, in_X3, ⟨by decide, by decide, by decide +kernel⟩, Nat.le_of_ble_eq_true rfl, Nat.le_of_ble_eq_true rfl⟩ ml_X6_164 im_X3_clear se_X3_clear (by rw [kv3]; rfl) rfl rfl rfl (Nat.le_of_ble_eq_true rfl) ⟨Nat.zero_le _, Nat.zero_le _⟩ (fun r16 σ17 hpo15 hok18 => ?_)
    obtain ⟨rfl, hIu19, hFu19⟩ := hpo15
    have hGu19 := hF7.tr hFu19 (by decide) (by decide)
    have t20 : σ17 a 2 = (tq : Int) + 1 := (hFu19.at k_a (by decide) (by decide)).trans t8
    have t21 : σ17 a 3 = (cq : Int) + 1 := (hFu19.at k_a (by decide) (by decide)).trans t9
    have t22 : σ17 a 5 = n5 := (hFu19.at k_a (by decide) (by decide)).trans t10
    have t23 : σ17 cq 2 = n2 := (hFu19.at k_cq (by decide) (by decide)).trans t11
    have t24 : σ17 cq 0 = (v2 : Int) + 1 := (hFu19.at k_cq (by decide) (by decide)).trans t12
    have t25 : σ17 v2 (n2 : Int).toNat = (v3 : Int) + 1 := (hFu19.atA kv2 (by decide) (by decide)).trans t13
    have t26 : σ17 a 4 = (v3 : Int) + 1 := (hFu19.at k_a (by decide) (by decide)).trans t14
    refine sv_same (st2 := []) (lv2 := [(0, sv_r a), (1, sv_i v), (2, sv_i w)]) rfl rfl ?_
    refine sv_go C.1 C.2.1 [(.aload_n 0, 1), (.iconst 0, 1)] (pc' := 43) (by decide +kernel) rfl (lv' := [(0, sv_r a), (1, sv_i v), (2, sv_i w)]) (st' := [sv_i 0, sv_r a]) rfl ?_
    refine sv_pf C (index := 167) (ci := 5) (k := 11) (r := (RX6, TX6, 13)) (z := 0) (by decide +kernel) (by rw [k_a]; rfl) rfl (by decide) rfl fl_X6_167 rfl (Or.inl rfl) ⟨by omega, by omega⟩ (hTA _ (by rw [k_a]; decide)) hok18 (fun hok27 => ?_)
    have hI29 := hIu19.up (a := a) (k := 11) (z := 0) (by rw [k_a]; exact trivial)
    have hF30 := hGu19.up (a := a) (k := 11) (z := 0) (Or.inr (by rw [k_a]; decide))
    generalize eσ28 : sv_up σ17 a 11 0 = σ28 at hok27 hI29 hF30 ⊢
    have t31 : σ28 a 2 = (tq : Int) + 1 := by rw [← eσ28, sv_up_k (by decide)]; exact t20
    have t32 : σ28 a 3 = (cq : Int) + 1 := by rw [← eσ28, sv_up_k (by decide)]; exact t21
    have t33 : σ28 a 5 = n5 := by rw [← eσ28, sv_up_k (by decide)]; exact t22
    have t34 : σ28 cq 2 = n2 := by rw [← eσ28, sv_up_a (sv_ne k_cq k_a (by decide))]; exact t23
    have t35 : σ28 cq 0 = (v2 : Int) + 1 := by rw [← eσ28, sv_up_a (sv_ne k_cq k_a (by decide))]; exact t24
    have t36 : σ28 v2 (n2 : Int).toNat = (v3 : Int) + 1 := by rw [← eσ28, sv_up_a (sv_ne kv2 k_a (by decide))]; exact t25
    have t37 : σ28 a 4 = (v3 : Int) + 1 := by rw [← eσ28, sv_up_k (by decide)]; exact t26
    have t38 : σ28 a 11 = 0 := by rw [← eσ28]; exact sv_up_s _ _ _ _
    refine sv_go C.1 C.2.1 [(.aload_n 0, 1), (.iload_n 2, 1)] (pc' := 48) (by decide +kernel) rfl (lv' := [(0, sv_r a), (1, sv_i v), (2, sv_i w)]) (st' := [sv_i w, sv_r a]) rfl ?_
    refine sv_cv C (index := 148) (k := 1) (rest := []) (ci := 5) (r := (RX6, TX6, 13)) (by decide +kernel) (sf_X6_goTo l g A ty σ28 hok27 hTA hI29 a k_a tq k_tq cq k_cq v3 kv3 (w) ⟨by omega, by omega⟩ t31 t32 t37) ⟨co_X6_goTo, in_X6, ⟨by decide, by decide, by decide +kernel⟩, Nat.le_of_ble_eq_true rfl, Nat.le_of_ble_eq_true rfl⟩ ml_X6_148 im_X6_goTo se_X6_goTo (by rw [k_a]; rfl) rfl rfl rfl (Nat.le_of_ble_eq_true rfl) ⟨Nat.zero_le _, Nat.zero_le _⟩ (fun r40 σ41 hpo39 hok42 => ?_)
    obtain ⟨⟨vu43, rfl, hvu43⟩, hIu43, hFu43, xu43⟩ := hpo39
    have hGu43 := hF30.tr hFu43 (by decide) (by decide)
    have t44 : σ41 a 2 = (tq : Int) + 1 := (hFu43.at k_a (by decide) (by decide)).trans t31
    have t45 : σ41 a 3 = (cq : Int) + 1 := (hFu43.at k_a (by decide) (by decide)).trans t32
    have t46 : σ41 cq 2 = n2 := (hFu43.at k_cq (by decide) (by decide)).trans t34
    have t47 : σ41 cq 0 = (v2 : Int) + 1 := (hFu43.at k_cq (by decide) (by decide)).trans t35
    have t48 : σ41 v2 (n2 : Int).toNat = (v3 : Int) + 1 := (hFu43.atA kv2 (by decide) (by decide)).trans t36
    have t49 : σ41 a 4 = (v3 : Int) + 1 := (hFu43.at k_a (by decide) (by decide)).trans t37
    have t50 : σ41 a 11 = 0 := (hFu43.at k_a (by decide) (by decide)).trans t38
    refine sv_same (st2 := [sv_i vu43]) (lv2 := [(0, sv_r a), (1, sv_i v), (2, sv_i w)]) rfl rfl ?_
    exact sv_iret C hr (by decide +kernel) hok42 (⟨⟨_, rfl, ⟨by omega, by omega⟩⟩, hIu43, hGu43, by rw [xu43, t46]; omega, v3, t49, kv3⟩)
  · refine sv_go C.1 C.2.1 [(.iconst 4, 1)] (pc' := 13) (by decide +kernel) rfl (lv' := [(0, sv_r a), (1, sv_i v), (2, sv_i w)]) (st' := [sv_i 4]) rfl ?_
    exact sv_iret C hr (by decide +kernel) hok (⟨⟨_, rfl, ⟨by omega, by omega⟩⟩, hI, hF, by rw [qn5, qn2]; omega, fq, pR4, k_fq⟩)

theorem ml_X6_153 : Cond.methodLink RX6 153 yX6_startFeast ∈ lw_good := sv_mem 556 (by decide +kernel) rfl
theorem co_X6_startFeast : Cond.code yX6_startFeast cX6_startFeast 3 (some .int) ∈ lw_good := sv_mem 559 (by decide +kernel) rfl
theorem im_X6_startFeast : Cond.instanceMethod yX6_startFeast ∈ lw_good := sv_mem 558 (by decide +kernel) rfl
theorem se_X6_startFeast : Cond.selects RX6 yX6_startFeast yX6_startFeast ∈ lw_good := sv_mem 7 (by decide +kernel) rfl
theorem fl_X6_156 : Cond.fieldLink RX6 156 "SaintsRoad$Calendar" "yieldRank" "I" ∈ lw_good := sv_mem 254 (by decide +kernel) rfl
theorem fl_X6_159 : Cond.fieldLink RX6 159 "SaintsRoad$Calendar" "lent" "I" ∈ lw_good := sv_mem 259 (by decide +kernel) rfl
set_option maxHeartbeats 4000000 in
set_option maxRecDepth 100000 in
theorem sf_X6_takeLineWord (l : Launch) (g : sv_G) (A : Nat → Prop) (ty : Nat → Nat) (σ : Nat → Nat → Int) (hok : sv_ok ty σ) (hTA : ∀ q, ty q ≠ 0 → A q) (hI : sv_inv sp_1 ty σ) (a : Nat) (k_a : ty a = 3) (tq : Nat) (k_tq : ty tq = 2) (cq : Nat) (k_cq : ty cq = 7) (fq : Nat) (k_fq : ty fq = 8) (n5 : Int) (h_n5 : 0 ≤ n5 ∧ n5 ≤ 22) (n2 : Int) (h_n2 : 0 ≤ n2 ∧ n2 ≤ 60) (pR2 : σ a 2 = (tq : Int) + 1) (pR3 : σ a 3 = (cq : Int) + 1) (pR4 : σ a 4 = (fq : Int) + 1) (qn5 : σ a 5 = n5) (qn2 : σ cq 2 = n2) (hJ : n5 = 0 ∨ n5 = 5 ∨ 18 ≤ n5 ∨ n2 ≤ 59) : sv_M l yX6_takeLineWord cX6_takeLineWord 1 (some .int) { frames := 2, cells := 0, slots := 0, locals := 43 } g A ty σ [sv_r a] (fun r σ' => (∃ rv : Int, r = [sv_i rv] ∧ (0 ≤ rv ∧ rv ≤ 5)) ∧ sv_inv sp_1 ty σ' ∧ sv_ofx [(3, 4), (3, 5), (3, 11), (8, 2), (8, 8), (8, 9), (8, 10), (8, 11)] [] ty σ σ' ∧ (σ' a 5 = 0 ∨ σ' a 5 = 5 ∨ 18 ≤ σ' a 5 ∨ σ' cq 2 ≤ 59) ∧ ∃ fz : Nat, σ' a 4 = (fz : Int) + 1 ∧ ty fz = 8) := by
  refine sv_enter (by decide) (Nat.le_of_ble_eq_true rfl) ?_
  intro p e s m args below meth c C hr
  have C : sv_C g A RX6 cX6_takeLineWord 1 p s m args meth c := C
  have hr : meth.sig.returnType = (some .int) := hr
  have hF : sv_ofx [(3, 4), (3, 5), (3, 11), (8, 2), (8, 8), (8, 9), (8, 10), (8, 11)] [] ty σ σ := sv_ofx.rf
  refine sv_same (st2 := []) (lv2 := [(0, sv_r a)]) rfl rfl ?_
  refine sv_go C.1 C.2.1 [(.aload_n 0, 1)] (pc' := 1) (by decide +kernel) rfl (lv' := [(0, sv_r a)]) (st' := [sv_r a]) rfl ?_
  obtain ⟨v1, ev1, hv1⟩ := sv_rdn hI (k := 7) k_a rfl
  refine sv_gf C (index := 48) (ci := 5) (k := 7) (r := (RX6, TX6, 13)) (v := sv_i v1) (by decide +kernel) (by rw [k_a]; rfl) rfl (by decide) fl_X6_48 (congrArg sv_i ev1) ?_
  rcases (show v1 = 10 ∨ v1 = 11 ∨ v1 = 12 ∨ v1 = 13 ∨ v1 = 14 ∨ v1 = 15 ∨ v1 = 16 ∨ v1 = 17 ∨ v1 = 18 ∨ v1 = 19 ∨ v1 = 20 ∨ (v1 ≠ 10 ∧ v1 ≠ 11 ∧ v1 ≠ 12 ∧ v1 ≠ 13 ∧ v1 ≠ 14 ∧ v1 ≠ 15 ∧ v1 ≠ 16 ∧ v1 ≠ 17 ∧ v1 ≠ 18 ∧ v1 ≠ 19 ∧ v1 ≠ 20) by omega) with h2 | h2 | h2 | h2 | h2 | h2 | h2 | h2 | h2 | h2 | h2 | h2
  · refine sv_tsI C.1 C.2.1 (dflt := 133) (lo := 10) (hi := 20) (offs := #[60, 68, 75, 133, 133, 133, 133, 133, 83, 104, 111]) (len := 60) (off := 60) (tgt := 64) (by decide +kernel) 10 h2 (by decide) rfl (by decide) ?_
    refine sv_go C.1 C.2.1 [(.aload_n 0, 1), (.iconst 0, 1), (.bipush 10, 2)] (pc' := 68) (by decide +kernel) rfl (lv' := [(0, sv_r a)]) (st' := [sv_i 10, sv_i 0, sv_r a]) rfl ?_
    refine sv_cv C (index := 153) (k := 2) (rest := []) (ci := 5) (r := (RX6, TX6, 13)) (by decide +kernel) (sf_X6_startFeast l g A ty σ hok hTA hI a k_a tq k_tq cq k_cq fq k_fq (0) ⟨by omega, by omega⟩ (10) ⟨by omega, by omega⟩ (n5) ⟨by omega, by omega⟩ (n2) ⟨by omega, by omega⟩ pR2 pR3 pR4 qn5 qn2 (by omega)) ⟨co_X6_startFeast, in_X6, ⟨by decide, by decide, by decide +kernel⟩, Nat.le_of_ble_eq_true rfl, Nat.le_of_ble_eq_true rfl⟩ ml_X6_153 im_X6_startFeast se_X6_startFeast (by rw [k_a]; rfl) rfl rfl rfl (Nat.le_of_ble_eq_true rfl) ⟨Nat.zero_le _, Nat.zero_le _⟩ (fun r4 σ5 hpo3 hok6 => ?_)
    obtain ⟨⟨vu7, rfl, hvu7⟩, hIu7, hFu7, xu7⟩ := hpo3
    have hGu7 := hF.tr hFu7 (by decide) (by decide)
    have t8 : σ5 a 2 = (tq : Int) + 1 := (hFu7.at k_a (by decide) (by decide)).trans pR2
    have t9 : σ5 a 3 = (cq : Int) + 1 := (hFu7.at k_a (by decide) (by decide)).trans pR3
    have t10 : σ5 cq 2 = n2 := (hFu7.at k_cq (by decide) (by decide)).trans qn2
    have t11 : σ5 a 7 = v1 := (hFu7.at k_a (by decide) (by decide)).trans ev1
    obtain ⟨wu7_5, ewu7_5, hwu7_5⟩ := sv_rdn hIu7 (k := 5) k_a rfl
    rw [ewu7_5] at xu7
    rw [t10] at xu7
    obtain ⟨xu7, fu7, efu7, kfu7⟩ := xu7
    refine sv_same (st2 := [sv_i vu7]) (lv2 := [(0, sv_r a)]) rfl rfl ?_
    exact sv_iret C hr (by decide +kernel) hok6 (⟨⟨_, rfl, ⟨by omega, by omega⟩⟩, hIu7, hGu7, by rw [ewu7_5, t10]; omega, fu7, efu7, kfu7⟩)
  · refine sv_tsI C.1 C.2.1 (dflt := 133) (lo := 10) (hi := 20) (offs := #[60, 68, 75, 133, 133, 133, 133, 133, 83, 104, 111]) (len := 60) (off := 68) (tgt := 72) (by decide +kernel) 11 h2 (by decide) rfl (by decide) ?_
    refine sv_go C.1 C.2.1 [(.aload_n 0, 1), (.iconst 1, 1), (.iconst 1, 1)] (pc' := 75) (by decide +kernel) rfl (lv' := [(0, sv_r a)]) (st' := [sv_i 1, sv_i 1, sv_r a]) rfl ?_
    refine sv_cv C (index := 153) (k := 2) (rest := []) (ci := 5) (r := (RX6, TX6, 13)) (by decide +kernel) (sf_X6_startFeast l g A ty σ hok hTA hI a k_a tq k_tq cq k_cq fq k_fq (1) ⟨by omega, by omega⟩ (1) ⟨by omega, by omega⟩ (n5) ⟨by omega, by omega⟩ (n2) ⟨by omega, by omega⟩ pR2 pR3 pR4 qn5 qn2 (by omega)) ⟨co_X6_startFeast, in_X6, ⟨by decide, by decide, by decide +kernel⟩, Nat.le_of_ble_eq_true rfl, Nat.le_of_ble_eq_true rfl⟩ ml_X6_153 im_X6_startFeast se_X6_startFeast (by rw [k_a]; rfl) rfl rfl rfl (Nat.le_of_ble_eq_true rfl) ⟨Nat.zero_le _, Nat.zero_le _⟩ (fun r13 σ14 hpo12 hok15 => ?_)
    obtain ⟨⟨vu16, rfl, hvu16⟩, hIu16, hFu16, xu16⟩ := hpo12
    have hGu16 := hF.tr hFu16 (by decide) (by decide)
    have t17 : σ14 a 2 = (tq : Int) + 1 := (hFu16.at k_a (by decide) (by decide)).trans pR2
    have t18 : σ14 a 3 = (cq : Int) + 1 := (hFu16.at k_a (by decide) (by decide)).trans pR3
    have t19 : σ14 cq 2 = n2 := (hFu16.at k_cq (by decide) (by decide)).trans qn2
    have t20 : σ14 a 7 = v1 := (hFu16.at k_a (by decide) (by decide)).trans ev1
    obtain ⟨wu16_5, ewu16_5, hwu16_5⟩ := sv_rdn hIu16 (k := 5) k_a rfl
    rw [ewu16_5] at xu16
    rw [t19] at xu16
    obtain ⟨xu16, fu16, efu16, kfu16⟩ := xu16
    refine sv_same (st2 := [sv_i vu16]) (lv2 := [(0, sv_r a)]) rfl rfl ?_
    exact sv_iret C hr (by decide +kernel) hok15 (⟨⟨_, rfl, ⟨by omega, by omega⟩⟩, hIu16, hGu16, by rw [ewu16_5, t19]; omega, fu16, efu16, kfu16⟩)
  · refine sv_tsI C.1 C.2.1 (dflt := 133) (lo := 10) (hi := 20) (offs := #[60, 68, 75, 133, 133, 133, 133, 133, 83, 104, 111]) (len := 60) (off := 75) (tgt := 79) (by decide +kernel) 12 h2 (by decide) rfl (by decide) ?_
    refine sv_go C.1 C.2.1 [(.aload_n 0, 1), (.iconst 2, 1), (.bipush 13, 2)] (pc' := 83) (by decide +kernel) rfl (lv' := [(0, sv_r a)]) (st' := [sv_i 13, sv_i 2, sv_r a]) rfl ?_
    refine sv_cv C (index := 153) (k := 2) (rest := []) (ci := 5) (r := (RX6, TX6, 13)) (by decide +kernel) (sf_X6_startFeast l g A ty σ hok hTA hI a k_a tq k_tq cq k_cq fq k_fq (2) ⟨by omega, by omega⟩ (13) ⟨by omega, by omega⟩ (n5) ⟨by omega, by omega⟩ (n2) ⟨by omega, by omega⟩ pR2 pR3 pR4 qn5 qn2 (by omega)) ⟨co_X6_startFeast, in_X6, ⟨by decide, by decide, by decide +kernel⟩, Nat.le_of_ble_eq_true rfl, Nat.le_of_ble_eq_true rfl⟩ ml_X6_153 im_X6_startFeast se_X6_startFeast (by rw [k_a]; rfl) rfl rfl rfl (Nat.le_of_ble_eq_true rfl) ⟨Nat.zero_le _, Nat.zero_le _⟩ (fun r22 σ23 hpo21 hok24 => ?_)
    obtain ⟨⟨vu25, rfl, hvu25⟩, hIu25, hFu25, xu25⟩ := hpo21
    have hGu25 := hF.tr hFu25 (by decide) (by decide)
    have t26 : σ23 a 2 = (tq : Int) + 1 := (hFu25.at k_a (by decide) (by decide)).trans pR2
    have t27 : σ23 a 3 = (cq : Int) + 1 := (hFu25.at k_a (by decide) (by decide)).trans pR3
    have t28 : σ23 cq 2 = n2 := (hFu25.at k_cq (by decide) (by decide)).trans qn2
    have t29 : σ23 a 7 = v1 := (hFu25.at k_a (by decide) (by decide)).trans ev1
    obtain ⟨wu25_5, ewu25_5, hwu25_5⟩ := sv_rdn hIu25 (k := 5) k_a rfl
    rw [ewu25_5] at xu25
    rw [t28] at xu25
    obtain ⟨xu25, fu25, efu25, kfu25⟩ := xu25
    refine sv_same (st2 := [sv_i vu25]) (lv2 := [(0, sv_r a)]) rfl rfl ?_
    exact sv_iret C hr (by decide +kernel) hok24 (⟨⟨_, rfl, ⟨by omega, by omega⟩⟩, hIu25, hGu25, by rw [ewu25_5, t28]; omega, fu25, efu25, kfu25⟩)
  · refine sv_tsI C.1 C.2.1 (dflt := 133) (lo := 10) (hi := 20) (offs := #[60, 68, 75, 133, 133, 133, 133, 133, 83, 104, 111]) (len := 60) (off := 133) (tgt := 137) (by decide +kernel) 13 h2 (by decide) rfl (by decide) ?_
    refine sv_go C.1 C.2.1 [(.iconst 1, 1)] (pc' := 138) (by decide +kernel) rfl (lv' := [(0, sv_r a)]) (st' := [sv_i 1]) rfl ?_
    exact sv_iret C hr (by decide +kernel) hok (⟨⟨_, rfl, ⟨by omega, by omega⟩⟩, hI, hF, by rw [qn5, qn2]; omega, fq, pR4, k_fq⟩)
  · refine sv_tsI C.1 C.2.1 (dflt := 133) (lo := 10) (hi := 20) (offs := #[60, 68, 75, 133, 133, 133, 133, 133, 83, 104, 111]) (len := 60) (off := 133) (tgt := 137) (by decide +kernel) 14 h2 (by decide) rfl (by decide) ?_
    refine sv_go C.1 C.2.1 [(.iconst 1, 1)] (pc' := 138) (by decide +kernel) rfl (lv' := [(0, sv_r a)]) (st' := [sv_i 1]) rfl ?_
    exact sv_iret C hr (by decide +kernel) hok (⟨⟨_, rfl, ⟨by omega, by omega⟩⟩, hI, hF, by rw [qn5, qn2]; omega, fq, pR4, k_fq⟩)
  · refine sv_tsI C.1 C.2.1 (dflt := 133) (lo := 10) (hi := 20) (offs := #[60, 68, 75, 133, 133, 133, 133, 133, 83, 104, 111]) (len := 60) (off := 133) (tgt := 137) (by decide +kernel) 15 h2 (by decide) rfl (by decide) ?_
    refine sv_go C.1 C.2.1 [(.iconst 1, 1)] (pc' := 138) (by decide +kernel) rfl (lv' := [(0, sv_r a)]) (st' := [sv_i 1]) rfl ?_
    exact sv_iret C hr (by decide +kernel) hok (⟨⟨_, rfl, ⟨by omega, by omega⟩⟩, hI, hF, by rw [qn5, qn2]; omega, fq, pR4, k_fq⟩)
  · refine sv_tsI C.1 C.2.1 (dflt := 133) (lo := 10) (hi := 20) (offs := #[60, 68, 75, 133, 133, 133, 133, 133, 83, 104, 111]) (len := 60) (off := 133) (tgt := 137) (by decide +kernel) 16 h2 (by decide) rfl (by decide) ?_
    refine sv_go C.1 C.2.1 [(.iconst 1, 1)] (pc' := 138) (by decide +kernel) rfl (lv' := [(0, sv_r a)]) (st' := [sv_i 1]) rfl ?_
    exact sv_iret C hr (by decide +kernel) hok (⟨⟨_, rfl, ⟨by omega, by omega⟩⟩, hI, hF, by rw [qn5, qn2]; omega, fq, pR4, k_fq⟩)
  · refine sv_tsI C.1 C.2.1 (dflt := 133) (lo := 10) (hi := 20) (offs := #[60, 68, 75, 133, 133, 133, 133, 133, 83, 104, 111]) (len := 60) (off := 133) (tgt := 137) (by decide +kernel) 17 h2 (by decide) rfl (by decide) ?_
    refine sv_go C.1 C.2.1 [(.iconst 1, 1)] (pc' := 138) (by decide +kernel) rfl (lv' := [(0, sv_r a)]) (st' := [sv_i 1]) rfl ?_
    exact sv_iret C hr (by decide +kernel) hok (⟨⟨_, rfl, ⟨by omega, by omega⟩⟩, hI, hF, by rw [qn5, qn2]; omega, fq, pR4, k_fq⟩)
  · refine sv_tsI C.1 C.2.1 (dflt := 133) (lo := 10) (hi := 20) (offs := #[60, 68, 75, 133, 133, 133, 133, 133, 83, 104, 111]) (len := 60) (off := 83) (tgt := 87) (by decide +kernel) 18 h2 (by decide) rfl (by decide) ?_
    refine sv_go C.1 C.2.1 [(.aload_n 0, 1)] (pc' := 88) (by decide +kernel) rfl (lv' := [(0, sv_r a)]) (st' := [sv_r a]) rfl ?_
    refine sv_gf C (index := 19) (ci := 5) (k := 3) (r := (RX6, TX6, 13)) (v := sv_r cq) (by decide +kernel) (by rw [k_a]; rfl) rfl (by decide) fl_X6_19 (congrArg sv_a pR3) ?_
    obtain ⟨v30, ev30, hv30⟩ := sv_rdk hok (a := cq) (k := 3) (ci := 1) (r := (RX1, TX1, 6)) (by rw [k_cq]; rfl) rfl (by decide) rfl
    refine sv_gf C (index := 156) (ci := 1) (k := 3) (r := (RX1, TX1, 6)) (v := sv_i v30) (by decide +kernel) (by rw [k_cq]; rfl) rfl (by decide) fl_X6_156 (congrArg sv_i ev30) ?_
    refine sv_if C.1 C.2.1 (cnd := .eq) (off := 7) (tgt := 101) (by decide +kernel) (by decide) ⟨by omega, by omega⟩ (fun (h31 : v30 = 0) => ?_) (fun (h31 : ¬ (v30 = 0)) => ?_)
    · refine sv_go C.1 C.2.1 [(.aload_n 0, 1), (.bipush 18, 2)] (pc' := 104) (by decide +kernel) rfl (lv' := [(0, sv_r a)]) (st' := [sv_i 18, sv_r a]) rfl ?_
      refine sv_cv C (index := 148) (k := 1) (rest := []) (ci := 5) (r := (RX6, TX6, 13)) (by decide +kernel) (sf_X6_goTo l g A ty σ hok hTA hI a k_a tq k_tq cq k_cq fq k_fq (18) ⟨by omega, by omega⟩ pR2 pR3 pR4) ⟨co_X6_goTo, in_X6, ⟨by decide, by decide, by decide +kernel⟩, Nat.le_of_ble_eq_true rfl, Nat.le_of_ble_eq_true rfl⟩ ml_X6_148 im_X6_goTo se_X6_goTo (by rw [k_a]; rfl) rfl rfl rfl (Nat.le_of_ble_eq_true rfl) ⟨Nat.zero_le _, Nat.zero_le _⟩ (fun r33 σ34 hpo32 hok35 => ?_)
      obtain ⟨⟨vu36, rfl, hvu36⟩, hIu36, hFu36, xu36⟩ := hpo32
      have hGu36 := hF.tr hFu36 (by decide) (by decide)
      have t37 : σ34 a 2 = (tq : Int) + 1 := (hFu36.at k_a (by decide) (by decide)).trans pR2
      have t38 : σ34 a 3 = (cq : Int) + 1 := (hFu36.at k_a (by decide) (by decide)).trans pR3
      have t39 : σ34 a 4 = (fq : Int) + 1 := (hFu36.at k_a (by decide) (by decide)).trans pR4
      have t40 : σ34 cq 2 = n2 := (hFu36.at k_cq (by decide) (by decide)).trans qn2
      have t41 : σ34 a 7 = v1 := (hFu36.at k_a (by decide) (by decide)).trans ev1
      have t42 : σ34 cq 3 = v30 := (hFu36.at k_cq (by decide) (by decide)).trans ev30
      refine sv_same (st2 := [sv_i vu36]) (lv2 := [(0, sv_r a)]) rfl rfl ?_
      exact sv_iret C hr (by decide +kernel) hok35 (⟨⟨_, rfl, ⟨by omega, by omega⟩⟩, hIu36, hGu36, by rw [xu36, t40]; omega, fq, t39, k_fq⟩)
    · refine sv_go C.1 C.2.1 [(.iconst 5, 1)] (pc' := 98) (by decide +kernel) rfl (lv' := [(0, sv_r a)]) (st' := [sv_i 5]) rfl ?_
      refine sv_goto C.1 C.2.1 (off := 9) (tgt := 107) (by decide +kernel) (by decide) ?_
      exact sv_iret C hr (by decide +kernel) hok (⟨⟨_, rfl, ⟨by omega, by omega⟩⟩, hI, hF, by rw [qn5, qn2]; omega, fq, pR4, k_fq⟩)
  · refine sv_tsI C.1 C.2.1 (dflt := 133) (lo := 10) (hi := 20) (offs := #[60, 68, 75, 133, 133, 133, 133, 133, 83, 104, 111]) (len := 60) (off := 104) (tgt := 108) (by decide +kernel) 19 h2 (by decide) rfl (by decide) ?_
    refine sv_go C.1 C.2.1 [(.aload_n 0, 1), (.bipush 20, 2)] (pc' := 111) (by decide +kernel) rfl (lv' := [(0, sv_r a)]) (st' := [sv_i 20, sv_r a]) rfl ?_
    refine sv_cv C (index := 148) (k := 1) (rest := []) (ci := 5) (r := (RX6, TX6, 13)) (by decide +kernel) (sf_X6_goTo l g A ty σ hok hTA hI a k_a tq k_tq cq k_cq fq k_fq (20) ⟨by omega, by omega⟩ pR2 pR3 pR4) ⟨co_X6_goTo, in_X6, ⟨by decide, by decide, by decide +kernel⟩, Nat.le_of_ble_eq_true rfl, Nat.le_of_ble_eq_true rfl⟩ ml_X6_148 im_X6_goTo se_X6_goTo (by rw [k_a]; rfl) rfl rfl rfl (Nat.le_of_ble_eq_true rfl) ⟨Nat.zero_le _, Nat.zero_le _⟩ (fun r44 σ45 hpo43 hok46 => ?_)
    obtain ⟨⟨vu47, rfl, hvu47⟩, hIu47, hFu47, xu47⟩ := hpo43
    have hGu47 := hF.tr hFu47 (by decide) (by decide)
    have t48 : σ45 a 2 = (tq : Int) + 1 := (hFu47.at k_a (by decide) (by decide)).trans pR2
    have t49 : σ45 a 3 = (cq : Int) + 1 := (hFu47.at k_a (by decide) (by decide)).trans pR3
    have t50 : σ45 a 4 = (fq : Int) + 1 := (hFu47.at k_a (by decide) (by decide)).trans pR4
    have t51 : σ45 cq 2 = n2 := (hFu47.at k_cq (by decide) (by decide)).trans qn2
    have t52 : σ45 a 7 = v1 := (hFu47.at k_a (by decide) (by decide)).trans ev1
    refine sv_same (st2 := [sv_i vu47]) (lv2 := [(0, sv_r a)]) rfl rfl ?_
    exact sv_iret C hr (by decide +kernel) hok46 (⟨⟨_, rfl, ⟨by omega, by omega⟩⟩, hIu47, hGu47, by rw [xu47, t51]; omega, fq, t50, k_fq⟩)
  · refine sv_tsI C.1 C.2.1 (dflt := 133) (lo := 10) (hi := 20) (offs := #[60, 68, 75, 133, 133, 133, 133, 133, 83, 104, 111]) (len := 60) (off := 111) (tgt := 115) (by decide +kernel) 20 h2 (by decide) rfl (by decide) ?_
    refine sv_go C.1 C.2.1 [(.aload_n 0, 1)] (pc' := 116) (by decide +kernel) rfl (lv' := [(0, sv_r a)]) (st' := [sv_r a]) rfl ?_
    refine sv_gf C (index := 19) (ci := 5) (k := 3) (r := (RX6, TX6, 13)) (v := sv_r cq) (by decide +kernel) (by rw [k_a]; rfl) rfl (by decide) fl_X6_19 (congrArg sv_a pR3) ?_
    obtain ⟨v53, ev53, hv53⟩ := sv_rdk hok (a := cq) (k := 5) (ci := 1) (r := (RX1, TX1, 6)) (by rw [k_cq]; rfl) rfl (by decide) rfl
    refine sv_gf C (index := 159) (ci := 1) (k := 5) (r := (RX1, TX1, 6)) (v := sv_i v53) (by decide +kernel) (by rw [k_cq]; rfl) rfl (by decide) fl_X6_159 (congrArg sv_i ev53) ?_
    refine sv_go C.1 C.2.1 [(.iconst (-1), 1)] (pc' := 123) (by decide +kernel) rfl (lv' := [(0, sv_r a)]) (st' := [sv_i ((-1)), sv_i v53]) rfl ?_
    refine sv_icmp C.1 C.2.1 (cnd := .eq) (off := 7) (tgt := 130) (by decide +kernel) (by decide) ⟨by omega, by omega⟩ ⟨by omega, by omega⟩ (fun (h54 : v53 = ((-1))) => ?_) (fun (h54 : ¬ (v53 = ((-1)))) => ?_)
    · refine sv_go C.1 C.2.1 [(.aload_n 0, 1), (.bipush 22, 2)] (pc' := 133) (by decide +kernel) rfl (lv' := [(0, sv_r a)]) (st' := [sv_i 22, sv_r a]) rfl ?_
      refine sv_cv C (index := 148) (k := 1) (rest := []) (ci := 5) (r := (RX6, TX6, 13)) (by decide +kernel) (sf_X6_goTo l g A ty σ hok hTA hI a k_a tq k_tq cq k_cq fq k_fq (22) ⟨by omega, by omega⟩ pR2 pR3 pR4) ⟨co_X6_goTo, in_X6, ⟨by decide, by decide, by decide +kernel⟩, Nat.le_of_ble_eq_true rfl, Nat.le_of_ble_eq_true rfl⟩ ml_X6_148 im_X6_goTo se_X6_goTo (by rw [k_a]; rfl) rfl rfl rfl (Nat.le_of_ble_eq_true rfl) ⟨Nat.zero_le _, Nat.zero_le _⟩ (fun r56 σ57 hpo55 hok58 => ?_)
      obtain ⟨⟨vu59, rfl, hvu59⟩, hIu59, hFu59, xu59⟩ := hpo55
      have hGu59 := hF.tr hFu59 (by decide) (by decide)
      have t60 : σ57 a 2 = (tq : Int) + 1 := (hFu59.at k_a (by decide) (by decide)).trans pR2
      have t61 : σ57 a 3 = (cq : Int) + 1 := (hFu59.at k_a (by decide) (by decide)).trans pR3
      have t62 : σ57 a 4 = (fq : Int) + 1 := (hFu59.at k_a (by decide) (by decide)).trans pR4
      have t63 : σ57 cq 2 = n2 := (hFu59.at k_cq (by decide) (by decide)).trans qn2
      have t64 : σ57 a 7 = v1 := (hFu59.at k_a (by decide) (by decide)).trans ev1
      have t65 : σ57 cq 5 = v53 := (hFu59.at k_cq (by decide) (by decide)).trans ev53
      refine sv_same (st2 := [sv_i vu59]) (lv2 := [(0, sv_r a)]) rfl rfl ?_
      exact sv_iret C hr (by decide +kernel) hok58 (⟨⟨_, rfl, ⟨by omega, by omega⟩⟩, hIu59, hGu59, by rw [xu59, t63]; omega, fq, t62, k_fq⟩)
    · refine sv_go C.1 C.2.1 [(.iconst 5, 1)] (pc' := 127) (by decide +kernel) rfl (lv' := [(0, sv_r a)]) (st' := [sv_i 5]) rfl ?_
      refine sv_goto C.1 C.2.1 (off := 9) (tgt := 136) (by decide +kernel) (by decide) ?_
      exact sv_iret C hr (by decide +kernel) hok (⟨⟨_, rfl, ⟨by omega, by omega⟩⟩, hI, hF, by rw [qn5, qn2]; omega, fq, pR4, k_fq⟩)
  · refine sv_tsO C.1 C.2.1 (dflt := 133) (lo := 10) (hi := 20) (offs := #[60, 68, 75, 133, 133, 133, 133, 133, 83, 104, 111]) (len := 60) (tgt := 137) (by decide +kernel) ⟨by omega, by omega⟩ (by omega) (by decide) ?_
    refine sv_go C.1 C.2.1 [(.iconst 1, 1)] (pc' := 138) (by decide +kernel) rfl (lv' := [(0, sv_r a)]) (st' := [sv_i 1]) rfl ?_
    exact sv_iret C hr (by decide +kernel) hok (⟨⟨_, rfl, ⟨by omega, by omega⟩⟩, hI, hF, by rw [qn5, qn2]; omega, fq, pR4, k_fq⟩)

set_option maxHeartbeats 4000000 in
set_option maxRecDepth 100000 in
theorem sf_X6_leastNumber (l : Launch) (g : sv_G) (A : Nat → Prop) (ty : Nat → Nat) (σ : Nat → Nat → Int) (hok : sv_ok ty σ) (hTA : ∀ q, ty q ≠ 0 → A q) (hI : sv_inv sp_1 ty σ) (a : Nat) (k_a : ty a = 3) (tq : Nat) (k_tq : ty tq = 2) (cq : Nat) (k_cq : ty cq = 7) (fq : Nat) (k_fq : ty fq = 8) (pR2 : σ a 2 = (tq : Int) + 1) (pR3 : σ a 3 = (cq : Int) + 1) (pR4 : σ a 4 = (fq : Int) + 1) : sv_M l yX6_leastNumber cX6_leastNumber 1 (some .int) { frames := 0, cells := 0, slots := 0, locals := 0 } g A ty σ [sv_r a] (fun r σ' => σ = σ' ∧ ∃ rv : Int, r = [sv_i rv] ∧ (0 ≤ rv ∧ rv ≤ 1)) := by
  refine sv_enter (by decide) (Nat.le_of_ble_eq_true rfl) ?_
  intro p e s m args below meth c C hr
  have C : sv_C g A RX6 cX6_leastNumber 1 p s m args meth c := C
  have hr : meth.sig.returnType = (some .int) := hr
  have hF : sv_ofx [] [] ty σ σ := sv_ofx.rf
  refine sv_same (st2 := []) (lv2 := [(0, sv_r a)]) rfl rfl ?_
  refine sv_go C.1 C.2.1 [(.aload_n 0, 1)] (pc' := 1) (by decide +kernel) rfl (lv' := [(0, sv_r a)]) (st' := [sv_r a]) rfl ?_
  obtain ⟨v1, ev1, hv1⟩ := sv_rdn hI (k := 5) k_a rfl
  refine sv_gf C (index := 36) (ci := 5) (k := 5) (r := (RX6, TX6, 13)) (v := sv_i v1) (by decide +kernel) (by rw [k_a]; rfl) rfl (by decide) fl_X6_36 (congrArg sv_i ev1) ?_
  rcases (show v1 = 12 ∨ v1 = 19 ∨ v1 = 21 ∨ v1 = 22 ∨ (v1 ≠ 12 ∧ v1 ≠ 19 ∧ v1 ≠ 21 ∧ v1 ≠ 22) by omega) with h2 | h2 | h2 | h2 | h2
  · refine sv_lsI C.1 C.2.1 (dflt := 46) (ps := #[(12, 44), (19, 44), (21, 44), (22, 44)]) (len := 44) (off := 44) (tgt := 48) (by decide +kernel) (by decide) 12 h2 (by decide) (by decide) (by decide) ?_
    refine sv_go C.1 C.2.1 [(.iconst 0, 1)] (pc' := 49) (by decide +kernel) rfl (lv' := [(0, sv_r a)]) (st' := [sv_i 0]) rfl ?_
    exact sv_iret C hr (by decide +kernel) hok (⟨rfl, ⟨_, rfl, ⟨by omega, by omega⟩⟩⟩)
  · refine sv_lsI C.1 C.2.1 (dflt := 46) (ps := #[(12, 44), (19, 44), (21, 44), (22, 44)]) (len := 44) (off := 44) (tgt := 48) (by decide +kernel) (by decide) 19 h2 (by decide) (by decide) (by decide) ?_
    refine sv_go C.1 C.2.1 [(.iconst 0, 1)] (pc' := 49) (by decide +kernel) rfl (lv' := [(0, sv_r a)]) (st' := [sv_i 0]) rfl ?_
    exact sv_iret C hr (by decide +kernel) hok (⟨rfl, ⟨_, rfl, ⟨by omega, by omega⟩⟩⟩)
  · refine sv_lsI C.1 C.2.1 (dflt := 46) (ps := #[(12, 44), (19, 44), (21, 44), (22, 44)]) (len := 44) (off := 44) (tgt := 48) (by decide +kernel) (by decide) 21 h2 (by decide) (by decide) (by decide) ?_
    refine sv_go C.1 C.2.1 [(.iconst 0, 1)] (pc' := 49) (by decide +kernel) rfl (lv' := [(0, sv_r a)]) (st' := [sv_i 0]) rfl ?_
    exact sv_iret C hr (by decide +kernel) hok (⟨rfl, ⟨_, rfl, ⟨by omega, by omega⟩⟩⟩)
  · refine sv_lsI C.1 C.2.1 (dflt := 46) (ps := #[(12, 44), (19, 44), (21, 44), (22, 44)]) (len := 44) (off := 44) (tgt := 48) (by decide +kernel) (by decide) 22 h2 (by decide) (by decide) (by decide) ?_
    refine sv_go C.1 C.2.1 [(.iconst 0, 1)] (pc' := 49) (by decide +kernel) rfl (lv' := [(0, sv_r a)]) (st' := [sv_i 0]) rfl ?_
    exact sv_iret C hr (by decide +kernel) hok (⟨rfl, ⟨_, rfl, ⟨by omega, by omega⟩⟩⟩)
  · refine sv_lsO C.1 C.2.1 (dflt := 46) (ps := #[(12, 44), (19, 44), (21, 44), (22, 44)]) (len := 44) (tgt := 50) (by decide +kernel) (by decide) ⟨by omega, by omega⟩ (by simp only [List.forall_mem_cons]; (repeat' constructor) <;> first | omega | (intro q hq; cases hq)) (by decide) ?_
    refine sv_go C.1 C.2.1 [(.iconst 1, 1)] (pc' := 51) (by decide +kernel) rfl (lv' := [(0, sv_r a)]) (st' := [sv_i 1]) rfl ?_
    exact sv_iret C hr (by decide +kernel) hok (⟨rfl, ⟨_, rfl, ⟨by omega, by omega⟩⟩⟩)

theorem fl_X6_202 : Cond.fieldLink RX6 202 "SaintsRoad$Feast" "month" "I" ∈ lw_good := sv_mem 192 (by decide +kernel) rfl
theorem ml_X6_205 : Cond.methodLink RX6 205 yX2_mostDaysOf ∈ lw_good := sv_mem 584 (by decide +kernel) rfl
set_option maxHeartbeats 4000000 in
set_option maxRecDepth 100000 in
theorem sf_X6_mostNumber (l : Launch) (g : sv_G) (A : Nat → Prop) (ty : Nat → Nat) (σ : Nat → Nat → Int) (hok : sv_ok ty σ) (hTA : ∀ q, ty q ≠ 0 → A q) (hI : sv_inv sp_1 ty σ) (a : Nat) (k_a : ty a = 3) (tq : Nat) (k_tq : ty tq = 2) (cq : Nat) (k_cq : ty cq = 7) (fq : Nat) (k_fq : ty fq = 8) (n5 : Int) (h_n5 : 0 ≤ n5 ∧ n5 ≤ 22) (pR2 : σ a 2 = (tq : Int) + 1) (pR3 : σ a 3 = (cq : Int) + 1) (pR4 : σ a 4 = (fq : Int) + 1) (qn5 : σ a 5 = n5) : sv_M l yX6_mostNumber cX6_mostNumber 1 (some .int) { frames := 1, cells := 0, slots := 0, locals := 20 } g A ty σ [sv_r a] (fun r σ' => σ = σ' ∧ ∃ rv : Int, r = [sv_i rv] ∧ (0 ≤ rv ∧ rv ≤ 9999) ∧ ((-2147483648) ≤ rv → rv ≤ 2147483647 → n5 = 20 → rv = 8)) := by
  refine sv_enter (by decide) (Nat.le_of_ble_eq_true rfl) ?_
  intro p e s m args below meth c C hr
  have C : sv_C g A RX6 cX6_mostNumber 1 p s m args meth c := C
  have hr : meth.sig.returnType = (some .int) := hr
  have hF : sv_ofx [] [] ty σ σ := sv_ofx.rf
  refine sv_same (st2 := []) (lv2 := [(0, sv_r a)]) rfl rfl ?_
  refine sv_go C.1 C.2.1 [(.aload_n 0, 1)] (pc' := 1) (by decide +kernel) rfl (lv' := [(0, sv_r a)]) (st' := [sv_r a]) rfl ?_
  refine sv_gf C (index := 36) (ci := 5) (k := 5) (r := (RX6, TX6, 13)) (v := sv_i n5) (by decide +kernel) (by rw [k_a]; rfl) rfl (by decide) fl_X6_36 (congrArg sv_i qn5) ?_
  rcases (show n5 = 10 ∨ n5 = 11 ∨ n5 = 12 ∨ n5 = 13 ∨ n5 = 14 ∨ n5 = 15 ∨ n5 = 16 ∨ n5 = 17 ∨ n5 = 18 ∨ n5 = 19 ∨ n5 = 20 ∨ n5 = 21 ∨ n5 = 22 ∨ (n5 ≠ 10 ∧ n5 ≠ 11 ∧ n5 ≠ 12 ∧ n5 ≠ 13 ∧ n5 ≠ 14 ∧ n5 ≠ 15 ∧ n5 ≠ 16 ∧ n5 ≠ 17 ∧ n5 ≠ 18 ∧ n5 ≠ 19 ∧ n5 ≠ 20 ∧ n5 ≠ 21 ∧ n5 ≠ 22) by omega) with h1 | h1 | h1 | h1 | h1 | h1 | h1 | h1 | h1 | h1 | h1 | h1 | h1 | h1
  · refine sv_tsI C.1 C.2.1 (dflt := 98) (lo := 10) (hi := 22) (offs := #[68, 71, 82, 85, 68, 98, 87, 87, 98, 91, 98, 94, 82]) (len := 68) (off := 68) (tgt := 72) (by decide +kernel) 10 h1 (by decide) rfl (by decide) ?_
    refine sv_go C.1 C.2.1 [(.bipush 12, 2)] (pc' := 74) (by decide +kernel) rfl (lv' := [(0, sv_r a)]) (st' := [sv_i 12]) rfl ?_
    exact sv_iret C hr (by decide +kernel) hok (⟨rfl, ⟨_, rfl, ⟨by omega, by omega⟩, fun _ _ => (by omega)⟩⟩)
  · refine sv_tsI C.1 C.2.1 (dflt := 98) (lo := 10) (hi := 22) (offs := #[68, 71, 82, 85, 68, 98, 87, 87, 98, 91, 98, 94, 82]) (len := 68) (off := 71) (tgt := 75) (by decide +kernel) 11 h1 (by decide) rfl (by decide) ?_
    refine sv_go C.1 C.2.1 [(.aload_n 0, 1)] (pc' := 76) (by decide +kernel) rfl (lv' := [(0, sv_r a)]) (st' := [sv_r a]) rfl ?_
    refine sv_gf C (index := 32) (ci := 5) (k := 4) (r := (RX6, TX6, 13)) (v := sv_r fq) (by decide +kernel) (by rw [k_a]; rfl) rfl (by decide) fl_X6_32 (congrArg sv_a pR4) ?_
    obtain ⟨v2, ev2, hv2⟩ := sv_rdk hok (a := fq) (k := 3) (ci := 2) (r := (RX3, TX3, 12)) (by rw [k_fq]; rfl) rfl (by decide) rfl
    refine sv_gf C (index := 202) (ci := 2) (k := 3) (r := (RX3, TX3, 12)) (v := sv_i v2) (by decide +kernel) (by rw [k_fq]; rfl) rfl (by decide) fl_X6_202 (congrArg sv_i ev2) ?_
    refine sv_cs C (index := 205) (k := 1) (rest := []) (by decide +kernel) (sf_X2_mostDaysOf l g A ty σ hok hTA hI (v2) ⟨by omega, by omega⟩) ⟨co_X2_mostDaysOf, in_X2, ⟨by decide, by decide, by decide +kernel⟩, Nat.le_of_ble_eq_true rfl, Nat.le_of_ble_eq_true rfl⟩ ml_X6_205 st_X2_mostDaysOf rfl rfl (Nat.le_of_ble_eq_true rfl) ⟨Nat.zero_le _, Nat.zero_le _⟩ (fun r4 σ5 hpo3 hok6 => ?_)
    obtain ⟨rfl, ⟨vu7, rfl, hvu7⟩⟩ := hpo3
    refine sv_same (st2 := [sv_i vu7]) (lv2 := [(0, sv_r a)]) rfl rfl ?_
    exact sv_iret C hr (by decide +kernel) hok6 (⟨rfl, ⟨_, rfl, ⟨by omega, by omega⟩, fun _ _ => (by omega)⟩⟩)
  · refine sv_tsI C.1 C.2.1 (dflt := 98) (lo := 10) (hi := 22) (offs := #[68, 71, 82, 85, 68, 98, 87, 87, 98, 91, 98, 94, 82]) (len := 68) (off := 82) (tgt := 86) (by decide +kernel) 12 h1 (by decide) rfl (by decide) ?_
    refine sv_go C.1 C.2.1 [(.bipush 90, 2)] (pc' := 88) (by decide +kernel) rfl (lv' := [(0, sv_r a)]) (st' := [sv_i 90]) rfl ?_
    exact sv_iret C hr (by decide +kernel) hok (⟨rfl, ⟨_, rfl, ⟨by omega, by omega⟩, fun _ _ => (by omega)⟩⟩)
  · refine sv_tsI C.1 C.2.1 (dflt := 98) (lo := 10) (hi := 22) (offs := #[68, 71, 82, 85, 68, 98, 87, 87, 98, 91, 98, 94, 82]) (len := 68) (off := 85) (tgt := 89) (by decide +kernel) 13 h1 (by decide) rfl (by decide) ?_
    refine sv_go C.1 C.2.1 [(.iconst 5, 1)] (pc' := 90) (by decide +kernel) rfl (lv' := [(0, sv_r a)]) (st' := [sv_i 5]) rfl ?_
    exact sv_iret C hr (by decide +kernel) hok (⟨rfl, ⟨_, rfl, ⟨by omega, by omega⟩, fun _ _ => (by omega)⟩⟩)
  · refine sv_tsI C.1 C.2.1 (dflt := 98) (lo := 10) (hi := 22) (offs := #[68, 71, 82, 85, 68, 98, 87, 87, 98, 91, 98, 94, 82]) (len := 68) (off := 68) (tgt := 72) (by decide +kernel) 14 h1 (by decide) rfl (by decide) ?_
    refine sv_go C.1 C.2.1 [(.bipush 12, 2)] (pc' := 74) (by decide +kernel) rfl (lv' := [(0, sv_r a)]) (st' := [sv_i 12]) rfl ?_
    exact sv_iret C hr (by decide +kernel) hok (⟨rfl, ⟨_, rfl, ⟨by omega, by omega⟩, fun _ _ => (by omega)⟩⟩)
  · refine sv_tsI C.1 C.2.1 (dflt := 98) (lo := 10) (hi := 22) (offs := #[68, 71, 82, 85, 68, 98, 87, 87, 98, 91, 98, 94, 82]) (len := 68) (off := 98) (tgt := 102) (by decide +kernel) 15 h1 (by decide) rfl (by decide) ?_
    refine sv_go C.1 C.2.1 [(.bipush 8, 2)] (pc' := 104) (by decide +kernel) rfl (lv' := [(0, sv_r a)]) (st' := [sv_i 8]) rfl ?_
    exact sv_iret C hr (by decide +kernel) hok (⟨rfl, ⟨_, rfl, ⟨by omega, by omega⟩, fun _ _ => (by omega)⟩⟩)
  · refine sv_tsI C.1 C.2.1 (dflt := 98) (lo := 10) (hi := 22) (offs := #[68, 71, 82, 85, 68, 98, 87, 87, 98, 91, 98, 94, 82]) (len := 68) (off := 87) (tgt := 91) (by decide +kernel) 16 h1 (by decide) rfl (by decide) ?_
    refine sv_go C.1 C.2.1 [(.sipush 2000, 3)] (pc' := 94) (by decide +kernel) rfl (lv' := [(0, sv_r a)]) (st' := [sv_i 2000]) rfl ?_
    exact sv_iret C hr (by decide +kernel) hok (⟨rfl, ⟨_, rfl, ⟨by omega, by omega⟩, fun _ _ => (by omega)⟩⟩)
  · refine sv_tsI C.1 C.2.1 (dflt := 98) (lo := 10) (hi := 22) (offs := #[68, 71, 82, 85, 68, 98, 87, 87, 98, 91, 98, 94, 82]) (len := 68) (off := 87) (tgt := 91) (by decide +kernel) 17 h1 (by decide) rfl (by decide) ?_
    refine sv_go C.1 C.2.1 [(.sipush 2000, 3)] (pc' := 94) (by decide +kernel) rfl (lv' := [(0, sv_r a)]) (st' := [sv_i 2000]) rfl ?_
    exact sv_iret C hr (by decide +kernel) hok (⟨rfl, ⟨_, rfl, ⟨by omega, by omega⟩, fun _ _ => (by omega)⟩⟩)
  · refine sv_tsI C.1 C.2.1 (dflt := 98) (lo := 10) (hi := 22) (offs := #[68, 71, 82, 85, 68, 98, 87, 87, 98, 91, 98, 94, 82]) (len := 68) (off := 98) (tgt := 102) (by decide +kernel) 18 h1 (by decide) rfl (by decide) ?_
    refine sv_go C.1 C.2.1 [(.bipush 8, 2)] (pc' := 104) (by decide +kernel) rfl (lv' := [(0, sv_r a)]) (st' := [sv_i 8]) rfl ?_
    exact sv_iret C hr (by decide +kernel) hok (⟨rfl, ⟨_, rfl, ⟨by omega, by omega⟩, fun _ _ => (by omega)⟩⟩)
  · refine sv_tsI C.1 C.2.1 (dflt := 98) (lo := 10) (hi := 22) (offs := #[68, 71, 82, 85, 68, 98, 87, 87, 98, 91, 98, 94, 82]) (len := 68) (off := 91) (tgt := 95) (by decide +kernel) 19 h1 (by decide) rfl (by decide) ?_
    refine sv_go C.1 C.2.1 [(.bipush 30, 2)] (pc' := 97) (by decide +kernel) rfl (lv' := [(0, sv_r a)]) (st' := [sv_i 30]) rfl ?_
    exact sv_iret C hr (by decide +kernel) hok (⟨rfl, ⟨_, rfl, ⟨by omega, by omega⟩, fun _ _ => (by omega)⟩⟩)
  · refine sv_tsI C.1 C.2.1 (dflt := 98) (lo := 10) (hi := 22) (offs := #[68, 71, 82, 85, 68, 98, 87, 87, 98, 91, 98, 94, 82]) (len := 68) (off := 98) (tgt := 102) (by decide +kernel) 20 h1 (by decide) rfl (by decide) ?_
    refine sv_go C.1 C.2.1 [(.bipush 8, 2)] (pc' := 104) (by decide +kernel) rfl (lv' := [(0, sv_r a)]) (st' := [sv_i 8]) rfl ?_
    exact sv_iret C hr (by decide +kernel) hok (⟨rfl, ⟨_, rfl, ⟨by omega, by omega⟩, fun _ _ => (by omega)⟩⟩)
  · refine sv_tsI C.1 C.2.1 (dflt := 98) (lo := 10) (hi := 22) (offs := #[68, 71, 82, 85, 68, 98, 87, 87, 98, 91, 98, 94, 82]) (len := 68) (off := 94) (tgt := 98) (by decide +kernel) 21 h1 (by decide) rfl (by decide) ?_
    refine sv_go C.1 C.2.1 [(.sipush 9999, 3)] (pc' := 101) (by decide +kernel) rfl (lv' := [(0, sv_r a)]) (st' := [sv_i 9999]) rfl ?_
    exact sv_iret C hr (by decide +kernel) hok (⟨rfl, ⟨_, rfl, ⟨by omega, by omega⟩, fun _ _ => (by omega)⟩⟩)
  · refine sv_tsI C.1 C.2.1 (dflt := 98) (lo := 10) (hi := 22) (offs := #[68, 71, 82, 85, 68, 98, 87, 87, 98, 91, 98, 94, 82]) (len := 68) (off := 82) (tgt := 86) (by decide +kernel) 22 h1 (by decide) rfl (by decide) ?_
    refine sv_go C.1 C.2.1 [(.bipush 90, 2)] (pc' := 88) (by decide +kernel) rfl (lv' := [(0, sv_r a)]) (st' := [sv_i 90]) rfl ?_
    exact sv_iret C hr (by decide +kernel) hok (⟨rfl, ⟨_, rfl, ⟨by omega, by omega⟩, fun _ _ => (by omega)⟩⟩)
  · refine sv_tsO C.1 C.2.1 (dflt := 98) (lo := 10) (hi := 22) (offs := #[68, 71, 82, 85, 68, 98, 87, 87, 98, 91, 98, 94, 82]) (len := 68) (tgt := 102) (by decide +kernel) ⟨by omega, by omega⟩ (by omega) (by decide) ?_
    refine sv_go C.1 C.2.1 [(.bipush 8, 2)] (pc' := 104) (by decide +kernel) rfl (lv' := [(0, sv_r a)]) (st' := [sv_i 8]) rfl ?_
    exact sv_iret C hr (by decide +kernel) hok (⟨rfl, ⟨_, rfl, ⟨by omega, by omega⟩, fun _ _ => (by omega)⟩⟩)

theorem fl_X6_210 : Cond.fieldLink RX6 210 "SaintsRoad$Feast" "date" "I" ∈ lw_good := sv_mem 194 (by decide +kernel) rfl
theorem fl_X6_170 : Cond.fieldLink RX6 170 "SaintsRoad$Reader" "ahead" "Z" ∈ lw_good := sv_mem 135 (by decide +kernel) rfl
theorem fl_X6_213 : Cond.fieldLink RX6 213 "SaintsRoad$Feast" "shift" "I" ∈ lw_good := sv_mem 196 (by decide +kernel) rfl
theorem fl_X6_216 : Cond.fieldLink RX6 216 "SaintsRoad$Feast" "week" "I" ∈ lw_good := sv_mem 198 (by decide +kernel) rfl
theorem fl_X6_219 : Cond.fieldLink RX6 219 "SaintsRoad$Feast" "rank" "I" ∈ lw_good := sv_mem 201 (by decide +kernel) rfl
theorem fl_X6_221 : Cond.fieldLink RX6 221 "SaintsRoad$Feast" "from" "I" ∈ lw_good := sv_mem 210 (by decide +kernel) rfl
theorem fl_X6_223 : Cond.fieldLink RX6 223 "SaintsRoad$Feast" "till" "I" ∈ lw_good := sv_mem 212 (by decide +kernel) rfl
set_option maxHeartbeats 4000000 in
set_option maxRecDepth 100000 in
theorem sf_X6_keepFeastNumber (l : Launch) (g : sv_G) (A : Nat → Prop) (ty : Nat → Nat) (σ : Nat → Nat → Int) (hok : sv_ok ty σ) (hTA : ∀ q, ty q ≠ 0 → A q) (hI : sv_inv sp_1 ty σ) (a : Nat) (k_a : ty a = 3) (tq : Nat) (k_tq : ty tq = 2) (cq : Nat) (k_cq : ty cq = 7) (fq : Nat) (k_fq : ty fq = 8) (n5 : Int) (h_n5 : 0 ≤ n5 ∧ n5 ≤ 22) (n2 : Int) (h_n2 : 0 ≤ n2 ∧ n2 ≤ 60) (pR2 : σ a 2 = (tq : Int) + 1) (pR3 : σ a 3 = (cq : Int) + 1) (pR4 : σ a 4 = (fq : Int) + 1) (qn5 : σ a 5 = n5) (qn2 : σ cq 2 = n2) (hJ : n5 = 0 ∨ n5 = 5 ∨ 18 ≤ n5 ∨ n2 ≤ 59) (hm59 : n2 ≤ 59) : sv_M l yX6_keepFeastNumber cX6_keepFeastNumber 1 (some .int) { frames := 1, cells := 0, slots := 0, locals := 21 } g A ty σ [sv_r a] (fun r σ' => (∃ rv : Int, r = [sv_i rv] ∧ (0 ≤ rv ∧ rv ≤ 5)) ∧ sv_inv sp_1 ty σ' ∧ sv_ofx [(3, 5), (8, 3), (8, 4), (8, 5), (8, 6), (8, 7), (8, 10), (8, 11)] [] ty σ σ' ∧ (σ' a 5 = 0 ∨ σ' a 5 = 5 ∨ 18 ≤ σ' a 5 ∨ σ' cq 2 ≤ 59) ∧ ∃ fz : Nat, σ' a 4 = (fz : Int) + 1 ∧ ty fz = 8) := by
  refine sv_enter (by decide) (Nat.le_of_ble_eq_true rfl) ?_
  intro p e s m args below meth c C hr
  have C : sv_C g A RX6 cX6_keepFeastNumber 1 p s m args meth c := C
  have hr : meth.sig.returnType = (some .int) := hr
  have hF : sv_ofx [(3, 5), (8, 3), (8, 4), (8, 5), (8, 6), (8, 7), (8, 10), (8, 11)] [] ty σ σ := sv_ofx.rf
  refine sv_same (st2 := []) (lv2 := [(0, sv_r a)]) rfl rfl ?_
  refine sv_go C.1 C.2.1 [(.aload_n 0, 1)] (pc' := 1) (by decide +kernel) rfl (lv' := [(0, sv_r a)]) (st' := [sv_r a]) rfl ?_
  refine sv_gf C (index := 36) (ci := 5) (k := 5) (r := (RX6, TX6, 13)) (v := sv_i n5) (by decide +kernel) (by rw [k_a]; rfl) rfl (by decide) fl_X6_36 (congrArg sv_i qn5) ?_
  rcases (show n5 = 10 ∨ n5 = 11 ∨ n5 = 12 ∨ n5 = 13 ∨ n5 = 14 ∨ n5 = 15 ∨ n5 = 16 ∨ (n5 ≠ 10 ∧ n5 ≠ 11 ∧ n5 ≠ 12 ∧ n5 ≠ 13 ∧ n5 ≠ 14 ∧ n5 ≠ 15 ∧ n5 ≠ 16) by omega) with h1 | h1 | h1 | h1 | h1 | h1 | h1 | h1
  · refine sv_tsI C.1 C.2.1 (dflt := 177) (lo := 10) (hi := 16) (offs := #[44, 62, 79, 111, 129, 146, 163]) (len := 44) (off := 44) (tgt := 48) (by decide +kernel) 10 h1 (by decide) rfl (by decide) ?_
    refine sv_go C.1 C.2.1 [(.aload_n 0, 1)] (pc' := 49) (by decide +kernel) rfl (lv' := [(0, sv_r a)]) (st' := [sv_r a]) rfl ?_
    refine sv_gf C (index := 32) (ci := 5) (k := 4) (r := (RX6, TX6, 13)) (v := sv_r fq) (by decide +kernel) (by rw [k_a]; rfl) rfl (by decide) fl_X6_32 (congrArg sv_a pR4) ?_
    refine sv_go C.1 C.2.1 [(.aload_n 0, 1)] (pc' := 53) (by decide +kernel) rfl (lv' := [(0, sv_r a)]) (st' := [sv_r a, sv_r fq]) rfl ?_
    obtain ⟨v2, ev2, hv2⟩ := sv_rdk hok (a := a) (k := 9) (ci := 5) (r := (RX6, TX6, 13)) (by rw [k_a]; rfl) rfl (by decide) rfl
    refine sv_gf C (index := 86) (ci := 5) (k := 9) (r := (RX6, TX6, 13)) (v := sv_i v2) (by decide +kernel) (by rw [k_a]; rfl) rfl (by decide) fl_X6_86 (congrArg sv_i ev2) ?_
    refine sv_pf C (index := 202) (ci := 2) (k := 3) (r := (RX3, TX3, 12)) (z := v2) (by decide +kernel) (by rw [k_fq]; rfl) rfl (by decide) rfl fl_X6_202 rfl (Or.inl rfl) ⟨by omega, by omega⟩ (hTA _ (by rw [k_fq]; decide)) hok (fun hok3 => ?_)
    have hI5 := hI.up (a := fq) (k := 3) (z := v2) (by rw [k_fq]; exact trivial)
    have hF6 := hF.up (a := fq) (k := 3) (z := v2) (Or.inr (by rw [k_fq]; decide))
    generalize eσ4 : sv_up σ fq 3 v2 = σ4 at hok3 hI5 hF6 ⊢
    have t7 : σ4 a 2 = (tq : Int) + 1 := by rw [← eσ4, sv_up_a (sv_ne k_a k_fq (by decide))]; exact pR2
    have t8 : σ4 a 3 = (cq : Int) + 1 := by rw [← eσ4, sv_up_a (sv_ne k_a k_fq (by decide))]; exact pR3
    have t9 : σ4 a 4 = (fq : Int) + 1 := by rw [← eσ4, sv_up_a (sv_ne k_a k_fq (by decide))]; exact pR4
    have t10 : σ4 a 5 = n5 := by rw [← eσ4, sv_up_a (sv_ne k_a k_fq (by decide))]; exact qn5
    have t11 : σ4 cq 2 = n2 := by rw [← eσ4, sv_up_a (sv_ne k_cq k_fq (by decide))]; exact qn2
    have t12 : σ4 a 9 = v2 := by rw [← eσ4, sv_up_a (sv_ne k_a k_fq (by decide))]; exact ev2
    have t13 : σ4 fq 3 = v2 := by rw [← eσ4]; exact sv_up_s _ _ _ _
    refine sv_go C.1 C.2.1 [(.aload_n 0, 1), (.bipush 11, 2)] (pc' := 62) (by decide +kernel) rfl (lv' := [(0, sv_r a)]) (st' := [sv_i 11, sv_r a]) rfl ?_
    refine sv_cv C (index := 148) (k := 1) (rest := []) (ci := 5) (r := (RX6, TX6, 13)) (by decide +kernel) (sf_X6_goTo l g A ty σ4 hok3 hTA hI5 a k_a tq k_tq cq k_cq fq k_fq (11) ⟨by omega, by omega⟩ t7 t8 t9) ⟨co_X6_goTo, in_X6, ⟨by decide, by decide, by decide +kernel⟩, Nat.le_of_ble_eq_true rfl, Nat.le_of_ble_eq_true rfl⟩ ml_X6_148 im_X6_goTo se_X6_goTo (by rw [k_a]; rfl) rfl rfl rfl (Nat.le_of_ble_eq_true rfl) ⟨Nat.zero_le _, Nat.zero_le _⟩ (fun r15 σ16 hpo14 hok17 => ?_)
    obtain ⟨⟨vu18, rfl, hvu18⟩, hIu18, hFu18, xu18⟩ := hpo14
    have hGu18 := hF6.tr hFu18 (by decide) (by decide)
    have t19 : σ16 a 2 = (tq : Int) + 1 := (hFu18.at k_a (by decide) (by decide)).trans t7
    have t20 : σ16 a 3 = (cq : Int) + 1 := (hFu18.at k_a (by decide) (by decide)).trans t8
    have t21 : σ16 a 4 = (fq : Int) + 1 := (hFu18.at k_a (by decide) (by decide)).trans t9
    have t22 : σ16 cq 2 = n2 := (hFu18.at k_cq (by decide) (by decide)).trans t11
    have t23 : σ16 a 9 = v2 := (hFu18.at k_a (by decide) (by decide)).trans t12
    have t24 : σ16 fq 3 = v2 := (hFu18.at k_fq (by decide) (by decide)).trans t13
    refine sv_same (st2 := [sv_i vu18]) (lv2 := [(0, sv_r a)]) rfl rfl ?_
    exact sv_iret C hr (by decide +kernel) hok17 (⟨⟨_, rfl, ⟨by omega, by omega⟩⟩, hIu18, hGu18, by rw [xu18, t22]; omega, fq, t21, k_fq⟩)
  · refine sv_tsI C.1 C.2.1 (dflt := 177) (lo := 10) (hi := 16) (offs := #[44, 62, 79, 111, 129, 146, 163]) (len := 44) (off := 62) (tgt := 66) (by decide +kernel) 11 h1 (by decide) rfl (by decide) ?_
    refine sv_go C.1 C.2.1 [(.aload_n 0, 1)] (pc' := 67) (by decide +kernel) rfl (lv' := [(0, sv_r a)]) (st' := [sv_r a]) rfl ?_
    refine sv_gf C (index := 32) (ci := 5) (k := 4) (r := (RX6, TX6, 13)) (v := sv_r fq) (by decide +kernel) (by rw [k_a]; rfl) rfl (by decide) fl_X6_32 (congrArg sv_a pR4) ?_
    refine sv_go C.1 C.2.1 [(.aload_n 0, 1)] (pc' := 71) (by decide +kernel) rfl (lv' := [(0, sv_r a)]) (st' := [sv_r a, sv_r fq]) rfl ?_
    obtain ⟨v25, ev25, hv25⟩ := sv_rdk hok (a := a) (k := 9) (ci := 5) (r := (RX6, TX6, 13)) (by rw [k_a]; rfl) rfl (by decide) rfl
    refine sv_gf C (index := 86) (ci := 5) (k := 9) (r := (RX6, TX6, 13)) (v := sv_i v25) (by decide +kernel) (by rw [k_a]; rfl) rfl (by decide) fl_X6_86 (congrArg sv_i ev25) ?_
    refine sv_pf C (index := 210) (ci := 2) (k := 4) (r := (RX3, TX3, 12)) (z := v25) (by decide +kernel) (by rw [k_fq]; rfl) rfl (by decide) rfl fl_X6_210 rfl (Or.inl rfl) ⟨by omega, by omega⟩ (hTA _ (by rw [k_fq]; decide)) hok (fun hok26 => ?_)
    have hI28 := hI.up (a := fq) (k := 4) (z := v25) (by rw [k_fq]; exact trivial)
    have hF29 := hF.up (a := fq) (k := 4) (z := v25) (Or.inr (by rw [k_fq]; decide))
    generalize eσ27 : sv_up σ fq 4 v25 = σ27 at hok26 hI28 hF29 ⊢
    have t30 : σ27 a 2 = (tq : Int) + 1 := by rw [← eσ27, sv_up_a (sv_ne k_a k_fq (by decide))]; exact pR2
    have t31 : σ27 a 3 = (cq : Int) + 1 := by rw [← eσ27, sv_up_a (sv_ne k_a k_fq (by decide))]; exact pR3
    have t32 : σ27 a 4 = (fq : Int) + 1 := by rw [← eσ27, sv_up_a (sv_ne k_a k_fq (by decide))]; exact pR4
    have t33 : σ27 a 5 = n5 := by rw [← eσ27, sv_up_a (sv_ne k_a k_fq (by decide))]; exact qn5
    have t34 : σ27 cq 2 = n2 := by rw [← eσ27, sv_up_a (sv_ne k_cq k_fq (by decide))]; exact qn2
    have t35 : σ27 a 9 = v25 := by rw [← eσ27, sv_up_a (sv_ne k_a k_fq (by decide))]; exact ev25
    have t36 : σ27 fq 4 = v25 := by rw [← eσ27]; exact sv_up_s _ _ _ _
    refine sv_go C.1 C.2.1 [(.aload_n 0, 1), (.iconst 2, 1)] (pc' := 79) (by decide +kernel) rfl (lv' := [(0, sv_r a)]) (st' := [sv_i 2, sv_r a]) rfl ?_
    refine sv_cv C (index := 148) (k := 1) (rest := []) (ci := 5) (r := (RX6, TX6, 13)) (by decide +kernel) (sf_X6_goTo l g A ty σ27 hok26 hTA hI28 a k_a tq k_tq cq k_cq fq k_fq (2) ⟨by omega, by omega⟩ t30 t31 t32) ⟨co_X6_goTo, in_X6, ⟨by decide, by decide, by decide +kernel⟩, Nat.le_of_ble_eq_true rfl, Nat.le_of_ble_eq_true rfl⟩ ml_X6_148 im_X6_goTo se_X6_goTo (by rw [k_a]; rfl) rfl rfl rfl (Nat.le_of_ble_eq_true rfl) ⟨Nat.zero_le _, Nat.zero_le _⟩ (fun r38 σ39 hpo37 hok40 => ?_)
    obtain ⟨⟨vu41, rfl, hvu41⟩, hIu41, hFu41, xu41⟩ := hpo37
    have hGu41 := hF29.tr hFu41 (by decide) (by decide)
    have t42 : σ39 a 2 = (tq : Int) + 1 := (hFu41.at k_a (by decide) (by decide)).trans t30
    have t43 : σ39 a 3 = (cq : Int) + 1 := (hFu41.at k_a (by decide) (by decide)).trans t31
    have t44 : σ39 a 4 = (fq : Int) + 1 := (hFu41.at k_a (by decide) (by decide)).trans t32
    have t45 : σ39 cq 2 = n2 := (hFu41.at k_cq (by decide) (by decide)).trans t34
    have t46 : σ39 a 9 = v25 := (hFu41.at k_a (by decide) (by decide)).trans t35
    have t47 : σ39 fq 4 = v25 := (hFu41.at k_fq (by decide) (by decide)).trans t36
    refine sv_same (st2 := [sv_i vu41]) (lv2 := [(0, sv_r a)]) rfl rfl ?_
    exact sv_iret C hr (by decide +kernel) hok40 (⟨⟨_, rfl, ⟨by omega, by omega⟩⟩, hIu41, hGu41, by rw [xu41, t45]; omega, fq, t44, k_fq⟩)
  · refine sv_tsI C.1 C.2.1 (dflt := 177) (lo := 10) (hi := 16) (offs := #[44, 62, 79, 111, 129, 146, 163]) (len := 44) (off := 79) (tgt := 83) (by decide +kernel) 12 h1 (by decide) rfl (by decide) ?_
    refine sv_go C.1 C.2.1 [(.aload_n 0, 1)] (pc' := 84) (by decide +kernel) rfl (lv' := [(0, sv_r a)]) (st' := [sv_r a]) rfl ?_
    refine sv_gf C (index := 32) (ci := 5) (k := 4) (r := (RX6, TX6, 13)) (v := sv_r fq) (by decide +kernel) (by rw [k_a]; rfl) rfl (by decide) fl_X6_32 (congrArg sv_a pR4) ?_
    refine sv_go C.1 C.2.1 [(.aload_n 0, 1)] (pc' := 88) (by decide +kernel) rfl (lv' := [(0, sv_r a)]) (st' := [sv_r a, sv_r fq]) rfl ?_
    obtain ⟨v48, ev48, hv48⟩ := sv_rdkz hok (a := a) (k := 10) (ci := 5) (r := (RX6, TX6, 13)) (by rw [k_a]; rfl) rfl (by decide) rfl
    refine sv_gf C (index := 170) (ci := 5) (k := 10) (r := (RX6, TX6, 13)) (v := sv_i v48) (by decide +kernel) (by rw [k_a]; rfl) rfl (by decide) fl_X6_170 (congrArg sv_i ev48) ?_
    have J51 : ∀ (Jg50_s0 : Int), ((-2147483648) ≤ Jg50_s0 ∧ Jg50_s0 ≤ 2147483647) → sv_E p l e { frames := 1, cells := 0, slots := 0, locals := 21 } s m args below meth c 1 g A ty (fun r σ' => (∃ rv : Int, r = [sv_i rv] ∧ (0 ≤ rv ∧ rv ≤ 5)) ∧ sv_inv sp_1 ty σ' ∧ sv_ofx [(3, 5), (8, 3), (8, 4), (8, 5), (8, 6), (8, 7), (8, 10), (8, 11)] [] ty σ σ' ∧ (σ' a 5 = 0 ∨ σ' a 5 = 5 ∨ 18 ≤ σ' a 5 ∨ σ' cq 2 ≤ 59) ∧ ∃ fz : Nat, σ' a 4 = (fz : Int) + 1 ∧ ty fz = 8) σ 106 [(0, sv_r a)] [sv_i Jg50_s0, sv_r fq] := by
      intro Jg50_s0 hJg50_s0
      refine sv_pf C (index := 213) (ci := 2) (k := 5) (r := (RX3, TX3, 12)) (z := Jg50_s0) (by decide +kernel) (by rw [k_fq]; rfl) rfl (by decide) rfl fl_X6_213 rfl (Or.inl rfl) ⟨by omega, by omega⟩ (hTA _ (by rw [k_fq]; decide)) hok (fun hok52 => ?_)
      have hI54 := hI.up (a := fq) (k := 5) (z := Jg50_s0) (by rw [k_fq]; exact trivial)
      have hF55 := hF.up (a := fq) (k := 5) (z := Jg50_s0) (Or.inr (by rw [k_fq]; decide))
      generalize eσ53 : sv_up σ fq 5 Jg50_s0 = σ53 at hok52 hI54 hF55 ⊢
      have t56 : σ53 a 2 = (tq : Int) + 1 := by rw [← eσ53, sv_up_a (sv_ne k_a k_fq (by decide))]; exact pR2
      have t57 : σ53 a 3 = (cq : Int) + 1 := by rw [← eσ53, sv_up_a (sv_ne k_a k_fq (by decide))]; exact pR3
      have t58 : σ53 a 4 = (fq : Int) + 1 := by rw [← eσ53, sv_up_a (sv_ne k_a k_fq (by decide))]; exact pR4
      have t59 : σ53 a 5 = n5 := by rw [← eσ53, sv_up_a (sv_ne k_a k_fq (by decide))]; exact qn5
      have t60 : σ53 cq 2 = n2 := by rw [← eσ53, sv_up_a (sv_ne k_cq k_fq (by decide))]; exact qn2
      have t61 : σ53 a 10 = v48 := by rw [← eσ53, sv_up_a (sv_ne k_a k_fq (by decide))]; exact ev48
      have t62 : σ53 fq 5 = Jg50_s0 := by rw [← eσ53]; exact sv_up_s _ _ _ _
      refine sv_go C.1 C.2.1 [(.aload_n 0, 1), (.iconst 2, 1)] (pc' := 111) (by decide +kernel) rfl (lv' := [(0, sv_r a)]) (st' := [sv_i 2, sv_r a]) rfl ?_
      refine sv_cv C (index := 148) (k := 1) (rest := []) (ci := 5) (r := (RX6, TX6, 13)) (by decide +kernel) (sf_X6_goTo l g A ty σ53 hok52 hTA hI54 a k_a tq k_tq cq k_cq fq k_fq (2) ⟨by omega, by omega⟩ t56 t57 t58) ⟨co_X6_goTo, in_X6, ⟨by decide, by decide, by decide +kernel⟩, Nat.le_of_ble_eq_true rfl, Nat.le_of_ble_eq_true rfl⟩ ml_X6_148 im_X6_goTo se_X6_goTo (by rw [k_a]; rfl) rfl rfl rfl (Nat.le_of_ble_eq_true rfl) ⟨Nat.zero_le _, Nat.zero_le _⟩ (fun r64 σ65 hpo63 hok66 => ?_)
      obtain ⟨⟨vu67, rfl, hvu67⟩, hIu67, hFu67, xu67⟩ := hpo63
      have hGu67 := hF55.tr hFu67 (by decide) (by decide)
      have t68 : σ65 a 2 = (tq : Int) + 1 := (hFu67.at k_a (by decide) (by decide)).trans t56
      have t69 : σ65 a 3 = (cq : Int) + 1 := (hFu67.at k_a (by decide) (by decide)).trans t57
      have t70 : σ65 a 4 = (fq : Int) + 1 := (hFu67.at k_a (by decide) (by decide)).trans t58
      have t71 : σ65 cq 2 = n2 := (hFu67.at k_cq (by decide) (by decide)).trans t60
      have t72 : σ65 a 10 = v48 := (hFu67.at k_a (by decide) (by decide)).trans t61
      have t73 : σ65 fq 5 = Jg50_s0 := (hFu67.at k_fq (by decide) (by decide)).trans t62
      refine sv_same (st2 := [sv_i vu67]) (lv2 := [(0, sv_r a)]) rfl rfl ?_
      exact sv_iret C hr (by decide +kernel) hok66 (⟨⟨_, rfl, ⟨by omega, by omega⟩⟩, hIu67, hGu67, by rw [xu67, t71]; omega, fq, t70, k_fq⟩)
    refine sv_if C.1 C.2.1 (cnd := .eq) (off := 11) (tgt := 102) (by decide +kernel) (by decide) ⟨by omega, by omega⟩ (fun (h49 : v48 = 0) => ?_) (fun (h49 : ¬ (v48 = 0)) => ?_)
    · refine sv_go C.1 C.2.1 [(.aload_n 0, 1)] (pc' := 103) (by decide +kernel) rfl (lv' := [(0, sv_r a)]) (st' := [sv_r a, sv_r fq]) rfl ?_
      obtain ⟨v74, ev74, hv74⟩ := sv_rdk hok (a := a) (k := 9) (ci := 5) (r := (RX6, TX6, 13)) (by rw [k_a]; rfl) rfl (by decide) rfl
      refine sv_gf C (index := 86) (ci := 5) (k := 9) (r := (RX6, TX6, 13)) (v := sv_i v74) (by decide +kernel) (by rw [k_a]; rfl) rfl (by decide) fl_X6_86 (congrArg sv_i ev74) ?_
      exact J51 v74 ⟨by omega, by omega⟩
    · refine sv_go C.1 C.2.1 [(.aload_n 0, 1)] (pc' := 95) (by decide +kernel) rfl (lv' := [(0, sv_r a)]) (st' := [sv_r a, sv_r fq]) rfl ?_
      obtain ⟨v75, ev75, hv75⟩ := sv_rdk hok (a := a) (k := 9) (ci := 5) (r := (RX6, TX6, 13)) (by rw [k_a]; rfl) rfl (by decide) rfl
      refine sv_gf C (index := 86) (ci := 5) (k := 9) (r := (RX6, TX6, 13)) (v := sv_i v75) (by decide +kernel) (by rw [k_a]; rfl) rfl (by decide) fl_X6_86 (congrArg sv_i ev75) ?_
      refine sv_go C.1 C.2.1 [(.ineg, 1)] (pc' := 99) (by decide +kernel) rfl (lv' := [(0, sv_r a)]) (st' := [sv_i (-v75), sv_r fq]) rfl ?_
      refine sv_goto C.1 C.2.1 (off := 7) (tgt := 106) (by decide +kernel) (by decide) ?_
      obtain ⟨w76, hw76, ew76⟩ := sv_wr (-v75)
      refine sv_sameD (st2 := [sv_i w76, sv_r fq]) (lv2 := [(0, sv_r a)]) (by simp only [List.map_cons, List.map_nil, sv_den_i, ew76]) (by simp only [sv_lm, List.map_cons, List.map_nil, sv_den_i, ew76]) ?_
      exact J51 w76 ⟨by omega, by omega⟩
  · refine sv_tsI C.1 C.2.1 (dflt := 177) (lo := 10) (hi := 16) (offs := #[44, 62, 79, 111, 129, 146, 163]) (len := 44) (off := 111) (tgt := 115) (by decide +kernel) 13 h1 (by decide) rfl (by decide) ?_
    refine sv_go C.1 C.2.1 [(.aload_n 0, 1)] (pc' := 116) (by decide +kernel) rfl (lv' := [(0, sv_r a)]) (st' := [sv_r a]) rfl ?_
    refine sv_gf C (index := 32) (ci := 5) (k := 4) (r := (RX6, TX6, 13)) (v := sv_r fq) (by decide +kernel) (by rw [k_a]; rfl) rfl (by decide) fl_X6_32 (congrArg sv_a pR4) ?_
    refine sv_go C.1 C.2.1 [(.aload_n 0, 1)] (pc' := 120) (by decide +kernel) rfl (lv' := [(0, sv_r a)]) (st' := [sv_r a, sv_r fq]) rfl ?_
    obtain ⟨v77, ev77, hv77⟩ := sv_rdk hok (a := a) (k := 9) (ci := 5) (r := (RX6, TX6, 13)) (by rw [k_a]; rfl) rfl (by decide) rfl
    refine sv_gf C (index := 86) (ci := 5) (k := 9) (r := (RX6, TX6, 13)) (v := sv_i v77) (by decide +kernel) (by rw [k_a]; rfl) rfl (by decide) fl_X6_86 (congrArg sv_i ev77) ?_
    refine sv_pf C (index := 216) (ci := 2) (k := 6) (r := (RX3, TX3, 12)) (z := v77) (by decide +kernel) (by rw [k_fq]; rfl) rfl (by decide) rfl fl_X6_216 rfl (Or.inl rfl) ⟨by omega, by omega⟩ (hTA _ (by rw [k_fq]; decide)) hok (fun hok78 => ?_)
    have hI80 := hI.up (a := fq) (k := 6) (z := v77) (by rw [k_fq]; exact trivial)
    have hF81 := hF.up (a := fq) (k := 6) (z := v77) (Or.inr (by rw [k_fq]; decide))
    generalize eσ79 : sv_up σ fq 6 v77 = σ79 at hok78 hI80 hF81 ⊢
    have t82 : σ79 a 2 = (tq : Int) + 1 := by rw [← eσ79, sv_up_a (sv_ne k_a k_fq (by decide))]; exact pR2
    have t83 : σ79 a 3 = (cq : Int) + 1 := by rw [← eσ79, sv_up_a (sv_ne k_a k_fq (by decide))]; exact pR3
    have t84 : σ79 a 4 = (fq : Int) + 1 := by rw [← eσ79, sv_up_a (sv_ne k_a k_fq (by decide))]; exact pR4
    have t85 : σ79 a 5 = n5 := by rw [← eσ79, sv_up_a (sv_ne k_a k_fq (by decide))]; exact qn5
    have t86 : σ79 cq 2 = n2 := by rw [← eσ79, sv_up_a (sv_ne k_cq k_fq (by decide))]; exact qn2
    have t87 : σ79 a 9 = v77 := by rw [← eσ79, sv_up_a (sv_ne k_a k_fq (by decide))]; exact ev77
    have t88 : σ79 fq 6 = v77 := by rw [← eσ79]; exact sv_up_s _ _ _ _
    refine sv_go C.1 C.2.1 [(.aload_n 0, 1), (.bipush 14, 2)] (pc' := 129) (by decide +kernel) rfl (lv' := [(0, sv_r a)]) (st' := [sv_i 14, sv_r a]) rfl ?_
    refine sv_cv C (index := 148) (k := 1) (rest := []) (ci := 5) (r := (RX6, TX6, 13)) (by decide +kernel) (sf_X6_goTo l g A ty σ79 hok78 hTA hI80 a k_a tq k_tq cq k_cq fq k_fq (14) ⟨by omega, by omega⟩ t82 t83 t84) ⟨co_X6_goTo, in_X6, ⟨by decide, by decide, by decide +kernel⟩, Nat.le_of_ble_eq_true rfl, Nat.le_of_ble_eq_true rfl⟩ ml_X6_148 im_X6_goTo se_X6_goTo (by rw [k_a]; rfl) rfl rfl rfl (Nat.le_of_ble_eq_true rfl) ⟨Nat.zero_le _, Nat.zero_le _⟩ (fun r90 σ91 hpo89 hok92 => ?_)
    obtain ⟨⟨vu93, rfl, hvu93⟩, hIu93, hFu93, xu93⟩ := hpo89
    have hGu93 := hF81.tr hFu93 (by decide) (by decide)
    have t94 : σ91 a 2 = (tq : Int) + 1 := (hFu93.at k_a (by decide) (by decide)).trans t82
    have t95 : σ91 a 3 = (cq : Int) + 1 := (hFu93.at k_a (by decide) (by decide)).trans t83
    have t96 : σ91 a 4 = (fq : Int) + 1 := (hFu93.at k_a (by decide) (by decide)).trans t84
    have t97 : σ91 cq 2 = n2 := (hFu93.at k_cq (by decide) (by decide)).trans t86
    have t98 : σ91 a 9 = v77 := (hFu93.at k_a (by decide) (by decide)).trans t87
    have t99 : σ91 fq 6 = v77 := (hFu93.at k_fq (by decide) (by decide)).trans t88
    refine sv_same (st2 := [sv_i vu93]) (lv2 := [(0, sv_r a)]) rfl rfl ?_
    exact sv_iret C hr (by decide +kernel) hok92 (⟨⟨_, rfl, ⟨by omega, by omega⟩⟩, hIu93, hGu93, by rw [xu93, t97]; omega, fq, t96, k_fq⟩)
  · refine sv_tsI C.1 C.2.1 (dflt := 177) (lo := 10) (hi := 16) (offs := #[44, 62, 79, 111, 129, 146, 163]) (len := 44) (off := 129) (tgt := 133) (by decide +kernel) 14 h1 (by decide) rfl (by decide) ?_
    refine sv_go C.1 C.2.1 [(.aload_n 0, 1)] (pc' := 134) (by decide +kernel) rfl (lv' := [(0, sv_r a)]) (st' := [sv_r a]) rfl ?_
    refine sv_gf C (index := 32) (ci := 5) (k := 4) (r := (RX6, TX6, 13)) (v := sv_r fq) (by decide +kernel) (by rw [k_a]; rfl) rfl (by decide) fl_X6_32 (congrArg sv_a pR4) ?_
    refine sv_go C.1 C.2.1 [(.aload_n 0, 1)] (pc' := 138) (by decide +kernel) rfl (lv' := [(0, sv_r a)]) (st' := [sv_r a, sv_r fq]) rfl ?_
    obtain ⟨v100, ev100, hv100⟩ := sv_rdk hok (a := a) (k := 9) (ci := 5) (r := (RX6, TX6, 13)) (by rw [k_a]; rfl) rfl (by decide) rfl
    refine sv_gf C (index := 86) (ci := 5) (k := 9) (r := (RX6, TX6, 13)) (v := sv_i v100) (by decide +kernel) (by rw [k_a]; rfl) rfl (by decide) fl_X6_86 (congrArg sv_i ev100) ?_
    refine sv_pf C (index := 202) (ci := 2) (k := 3) (r := (RX3, TX3, 12)) (z := v100) (by decide +kernel) (by rw [k_fq]; rfl) rfl (by decide) rfl fl_X6_202 rfl (Or.inl rfl) ⟨by omega, by omega⟩ (hTA _ (by rw [k_fq]; decide)) hok (fun hok101 => ?_)
    have hI103 := hI.up (a := fq) (k := 3) (z := v100) (by rw [k_fq]; exact trivial)
    have hF104 := hF.up (a := fq) (k := 3) (z := v100) (Or.inr (by rw [k_fq]; decide))
    generalize eσ102 : sv_up σ fq 3 v100 = σ102 at hok101 hI103 hF104 ⊢
    have t105 : σ102 a 2 = (tq : Int) + 1 := by rw [← eσ102, sv_up_a (sv_ne k_a k_fq (by decide))]; exact pR2
    have t106 : σ102 a 3 = (cq : Int) + 1 := by rw [← eσ102, sv_up_a (sv_ne k_a k_fq (by decide))]; exact pR3
    have t107 : σ102 a 4 = (fq : Int) + 1 := by rw [← eσ102, sv_up_a (sv_ne k_a k_fq (by decide))]; exact pR4
    have t108 : σ102 a 5 = n5 := by rw [← eσ102, sv_up_a (sv_ne k_a k_fq (by decide))]; exact qn5
    have t109 : σ102 cq 2 = n2 := by rw [← eσ102, sv_up_a (sv_ne k_cq k_fq (by decide))]; exact qn2
    have t110 : σ102 a 9 = v100 := by rw [← eσ102, sv_up_a (sv_ne k_a k_fq (by decide))]; exact ev100
    have t111 : σ102 fq 3 = v100 := by rw [← eσ102]; exact sv_up_s _ _ _ _
    refine sv_go C.1 C.2.1 [(.aload_n 0, 1), (.iconst 2, 1)] (pc' := 146) (by decide +kernel) rfl (lv' := [(0, sv_r a)]) (st' := [sv_i 2, sv_r a]) rfl ?_
    refine sv_cv C (index := 148) (k := 1) (rest := []) (ci := 5) (r := (RX6, TX6, 13)) (by decide +kernel) (sf_X6_goTo l g A ty σ102 hok101 hTA hI103 a k_a tq k_tq cq k_cq fq k_fq (2) ⟨by omega, by omega⟩ t105 t106 t107) ⟨co_X6_goTo, in_X6, ⟨by decide, by decide, by decide +kernel⟩, Nat.le_of_ble_eq_true rfl, Nat.le_of_ble_eq_true rfl⟩ ml_X6_148 im_X6_goTo se_X6_goTo (by rw [k_a]; rfl) rfl rfl rfl (Nat.le_of_ble_eq_true rfl) ⟨Nat.zero_le _, Nat.zero_le _⟩ (fun r113 σ114 hpo112 hok115 => ?_)
    obtain ⟨⟨vu116, rfl, hvu116⟩, hIu116, hFu116, xu116⟩ := hpo112
    have hGu116 := hF104.tr hFu116 (by decide) (by decide)
    have t117 : σ114 a 2 = (tq : Int) + 1 := (hFu116.at k_a (by decide) (by decide)).trans t105
    have t118 : σ114 a 3 = (cq : Int) + 1 := (hFu116.at k_a (by decide) (by decide)).trans t106
    have t119 : σ114 a 4 = (fq : Int) + 1 := (hFu116.at k_a (by decide) (by decide)).trans t107
    have t120 : σ114 cq 2 = n2 := (hFu116.at k_cq (by decide) (by decide)).trans t109
    have t121 : σ114 a 9 = v100 := (hFu116.at k_a (by decide) (by decide)).trans t110
    have t122 : σ114 fq 3 = v100 := (hFu116.at k_fq (by decide) (by decide)).trans t111
    refine sv_same (st2 := [sv_i vu116]) (lv2 := [(0, sv_r a)]) rfl rfl ?_
    exact sv_iret C hr (by decide +kernel) hok115 (⟨⟨_, rfl, ⟨by omega, by omega⟩⟩, hIu116, hGu116, by rw [xu116, t120]; omega, fq, t119, k_fq⟩)
  · refine sv_tsI C.1 C.2.1 (dflt := 177) (lo := 10) (hi := 16) (offs := #[44, 62, 79, 111, 129, 146, 163]) (len := 44) (off := 146) (tgt := 150) (by decide +kernel) 15 h1 (by decide) rfl (by decide) ?_
    refine sv_go C.1 C.2.1 [(.aload_n 0, 1)] (pc' := 151) (by decide +kernel) rfl (lv' := [(0, sv_r a)]) (st' := [sv_r a]) rfl ?_
    refine sv_gf C (index := 32) (ci := 5) (k := 4) (r := (RX6, TX6, 13)) (v := sv_r fq) (by decide +kernel) (by rw [k_a]; rfl) rfl (by decide) fl_X6_32 (congrArg sv_a pR4) ?_
    refine sv_go C.1 C.2.1 [(.aload_n 0, 1)] (pc' := 155) (by decide +kernel) rfl (lv' := [(0, sv_r a)]) (st' := [sv_r a, sv_r fq]) rfl ?_
    obtain ⟨v123, ev123, hv123⟩ := sv_rdk hok (a := a) (k := 9) (ci := 5) (r := (RX6, TX6, 13)) (by rw [k_a]; rfl) rfl (by decide) rfl
    refine sv_gf C (index := 86) (ci := 5) (k := 9) (r := (RX6, TX6, 13)) (v := sv_i v123) (by decide +kernel) (by rw [k_a]; rfl) rfl (by decide) fl_X6_86 (congrArg sv_i ev123) ?_
    refine sv_pf C (index := 219) (ci := 2) (k := 7) (r := (RX3, TX3, 12)) (z := v123) (by decide +kernel) (by rw [k_fq]; rfl) rfl (by decide) rfl fl_X6_219 rfl (Or.inl rfl) ⟨by omega, by omega⟩ (hTA _ (by rw [k_fq]; decide)) hok (fun hok124 => ?_)
    have hI126 := hI.up (a := fq) (k := 7) (z := v123) (by rw [k_fq]; exact trivial)
    have hF127 := hF.up (a := fq) (k := 7) (z := v123) (Or.inr (by rw [k_fq]; decide))
    generalize eσ125 : sv_up σ fq 7 v123 = σ125 at hok124 hI126 hF127 ⊢
    have t128 : σ125 a 2 = (tq : Int) + 1 := by rw [← eσ125, sv_up_a (sv_ne k_a k_fq (by decide))]; exact pR2
    have t129 : σ125 a 3 = (cq : Int) + 1 := by rw [← eσ125, sv_up_a (sv_ne k_a k_fq (by decide))]; exact pR3
    have t130 : σ125 a 4 = (fq : Int) + 1 := by rw [← eσ125, sv_up_a (sv_ne k_a k_fq (by decide))]; exact pR4
    have t131 : σ125 a 5 = n5 := by rw [← eσ125, sv_up_a (sv_ne k_a k_fq (by decide))]; exact qn5
    have t132 : σ125 cq 2 = n2 := by rw [← eσ125, sv_up_a (sv_ne k_cq k_fq (by decide))]; exact qn2
    have t133 : σ125 a 9 = v123 := by rw [← eσ125, sv_up_a (sv_ne k_a k_fq (by decide))]; exact ev123
    have t134 : σ125 fq 7 = v123 := by rw [← eσ125]; exact sv_up_s _ _ _ _
    refine sv_go C.1 C.2.1 [(.aload_n 0, 1), (.iconst 3, 1)] (pc' := 163) (by decide +kernel) rfl (lv' := [(0, sv_r a)]) (st' := [sv_i 3, sv_r a]) rfl ?_
    refine sv_cv C (index := 148) (k := 1) (rest := []) (ci := 5) (r := (RX6, TX6, 13)) (by decide +kernel) (sf_X6_goTo l g A ty σ125 hok124 hTA hI126 a k_a tq k_tq cq k_cq fq k_fq (3) ⟨by omega, by omega⟩ t128 t129 t130) ⟨co_X6_goTo, in_X6, ⟨by decide, by decide, by decide +kernel⟩, Nat.le_of_ble_eq_true rfl, Nat.le_of_ble_eq_true rfl⟩ ml_X6_148 im_X6_goTo se_X6_goTo (by rw [k_a]; rfl) rfl rfl rfl (Nat.le_of_ble_eq_true rfl) ⟨Nat.zero_le _, Nat.zero_le _⟩ (fun r136 σ137 hpo135 hok138 => ?_)
    obtain ⟨⟨vu139, rfl, hvu139⟩, hIu139, hFu139, xu139⟩ := hpo135
    have hGu139 := hF127.tr hFu139 (by decide) (by decide)
    have t140 : σ137 a 2 = (tq : Int) + 1 := (hFu139.at k_a (by decide) (by decide)).trans t128
    have t141 : σ137 a 3 = (cq : Int) + 1 := (hFu139.at k_a (by decide) (by decide)).trans t129
    have t142 : σ137 a 4 = (fq : Int) + 1 := (hFu139.at k_a (by decide) (by decide)).trans t130
    have t143 : σ137 cq 2 = n2 := (hFu139.at k_cq (by decide) (by decide)).trans t132
    have t144 : σ137 a 9 = v123 := (hFu139.at k_a (by decide) (by decide)).trans t133
    have t145 : σ137 fq 7 = v123 := (hFu139.at k_fq (by decide) (by decide)).trans t134
    refine sv_same (st2 := [sv_i vu139]) (lv2 := [(0, sv_r a)]) rfl rfl ?_
    exact sv_iret C hr (by decide +kernel) hok138 (⟨⟨_, rfl, ⟨by omega, by omega⟩⟩, hIu139, hGu139, by rw [xu139, t143]; omega, fq, t142, k_fq⟩)
  · refine sv_tsI C.1 C.2.1 (dflt := 177) (lo := 10) (hi := 16) (offs := #[44, 62, 79, 111, 129, 146, 163]) (len := 44) (off := 163) (tgt := 167) (by decide +kernel) 16 h1 (by decide) rfl (by decide) ?_
    refine sv_go C.1 C.2.1 [(.aload_n 0, 1)] (pc' := 168) (by decide +kernel) rfl (lv' := [(0, sv_r a)]) (st' := [sv_r a]) rfl ?_
    refine sv_gf C (index := 32) (ci := 5) (k := 4) (r := (RX6, TX6, 13)) (v := sv_r fq) (by decide +kernel) (by rw [k_a]; rfl) rfl (by decide) fl_X6_32 (congrArg sv_a pR4) ?_
    refine sv_go C.1 C.2.1 [(.aload_n 0, 1)] (pc' := 172) (by decide +kernel) rfl (lv' := [(0, sv_r a)]) (st' := [sv_r a, sv_r fq]) rfl ?_
    obtain ⟨v146, ev146, hv146⟩ := sv_rdk hok (a := a) (k := 9) (ci := 5) (r := (RX6, TX6, 13)) (by rw [k_a]; rfl) rfl (by decide) rfl
    refine sv_gf C (index := 86) (ci := 5) (k := 9) (r := (RX6, TX6, 13)) (v := sv_i v146) (by decide +kernel) (by rw [k_a]; rfl) rfl (by decide) fl_X6_86 (congrArg sv_i ev146) ?_
    refine sv_pf C (index := 221) (ci := 2) (k := 10) (r := (RX3, TX3, 12)) (z := v146) (by decide +kernel) (by rw [k_fq]; rfl) rfl (by decide) rfl fl_X6_221 rfl (Or.inl rfl) ⟨by omega, by omega⟩ (hTA _ (by rw [k_fq]; decide)) hok (fun hok147 => ?_)
    have hI149 := hI.up (a := fq) (k := 10) (z := v146) (by rw [k_fq]; exact trivial)
    have hF150 := hF.up (a := fq) (k := 10) (z := v146) (Or.inr (by rw [k_fq]; decide))
    generalize eσ148 : sv_up σ fq 10 v146 = σ148 at hok147 hI149 hF150 ⊢
    have t151 : σ148 a 2 = (tq : Int) + 1 := by rw [← eσ148, sv_up_a (sv_ne k_a k_fq (by decide))]; exact pR2
    have t152 : σ148 a 3 = (cq : Int) + 1 := by rw [← eσ148, sv_up_a (sv_ne k_a k_fq (by decide))]; exact pR3
    have t153 : σ148 a 4 = (fq : Int) + 1 := by rw [← eσ148, sv_up_a (sv_ne k_a k_fq (by decide))]; exact pR4
    have t154 : σ148 a 5 = n5 := by rw [← eσ148, sv_up_a (sv_ne k_a k_fq (by decide))]; exact qn5
    have t155 : σ148 cq 2 = n2 := by rw [← eσ148, sv_up_a (sv_ne k_cq k_fq (by decide))]; exact qn2
    have t156 : σ148 a 9 = v146 := by rw [← eσ148, sv_up_a (sv_ne k_a k_fq (by decide))]; exact ev146
    have t157 : σ148 fq 10 = v146 := by rw [← eσ148]; exact sv_up_s _ _ _ _
    refine sv_goto C.1 C.2.1 (off := 14) (tgt := 192) (by decide +kernel) (by decide) ?_
    refine sv_go C.1 C.2.1 [(.aload_n 0, 1)] (pc' := 193) (by decide +kernel) rfl (lv' := [(0, sv_r a)]) (st' := [sv_r a]) rfl ?_
    refine sv_gf C (index := 32) (ci := 5) (k := 4) (r := (RX6, TX6, 13)) (v := sv_r fq) (by decide +kernel) (by rw [k_a]; rfl) rfl (by decide) fl_X6_32 (congrArg sv_a t153) ?_
    refine sv_gf C (index := 221) (ci := 2) (k := 10) (r := (RX3, TX3, 12)) (v := sv_i v146) (by decide +kernel) (by rw [k_fq]; rfl) rfl (by decide) fl_X6_221 (congrArg sv_i t157) ?_
    refine sv_go C.1 C.2.1 [(.aload_n 0, 1)] (pc' := 200) (by decide +kernel) rfl (lv' := [(0, sv_r a)]) (st' := [sv_r a, sv_i v146]) rfl ?_
    refine sv_gf C (index := 32) (ci := 5) (k := 4) (r := (RX6, TX6, 13)) (v := sv_r fq) (by decide +kernel) (by rw [k_a]; rfl) rfl (by decide) fl_X6_32 (congrArg sv_a t153) ?_
    obtain ⟨v158, ev158, hv158⟩ := sv_rdk hok147 (a := fq) (k := 11) (ci := 2) (r := (RX3, TX3, 12)) (by rw [k_fq]; rfl) rfl (by decide) rfl
    refine sv_gf C (index := 223) (ci := 2) (k := 11) (r := (RX3, TX3, 12)) (v := sv_i v158) (by decide +kernel) (by rw [k_fq]; rfl) rfl (by decide) fl_X6_223 (congrArg sv_i ev158) ?_
    refine sv_icmp C.1 C.2.1 (cnd := .le) (off := 7) (tgt := 213) (by decide +kernel) (by decide) ⟨by omega, by omega⟩ ⟨by omega, by omega⟩ (fun (h159 : v146 ≤ v158) => ?_) (fun (h159 : ¬ (v146 ≤ v158)) => ?_)
    · refine sv_go C.1 C.2.1 [(.aload_n 0, 1), (.iconst 4, 1)] (pc' := 215) (by decide +kernel) rfl (lv' := [(0, sv_r a)]) (st' := [sv_i 4, sv_r a]) rfl ?_
      refine sv_cv C (index := 148) (k := 1) (rest := []) (ci := 5) (r := (RX6, TX6, 13)) (by decide +kernel) (sf_X6_goTo l g A ty σ148 hok147 hTA hI149 a k_a tq k_tq cq k_cq fq k_fq (4) ⟨by omega, by omega⟩ t151 t152 t153) ⟨co_X6_goTo, in_X6, ⟨by decide, by decide, by decide +kernel⟩, Nat.le_of_ble_eq_true rfl, Nat.le_of_ble_eq_true rfl⟩ ml_X6_148 im_X6_goTo se_X6_goTo (by rw [k_a]; rfl) rfl rfl rfl (Nat.le_of_ble_eq_true rfl) ⟨Nat.zero_le _, Nat.zero_le _⟩ (fun r161 σ162 hpo160 hok163 => ?_)
      obtain ⟨⟨vu164, rfl, hvu164⟩, hIu164, hFu164, xu164⟩ := hpo160
      have hGu164 := hF150.tr hFu164 (by decide) (by decide)
      have t165 : σ162 a 2 = (tq : Int) + 1 := (hFu164.at k_a (by decide) (by decide)).trans t151
      have t166 : σ162 a 3 = (cq : Int) + 1 := (hFu164.at k_a (by decide) (by decide)).trans t152
      have t167 : σ162 a 4 = (fq : Int) + 1 := (hFu164.at k_a (by decide) (by decide)).trans t153
      have t168 : σ162 cq 2 = n2 := (hFu164.at k_cq (by decide) (by decide)).trans t155
      have t169 : σ162 a 9 = v146 := (hFu164.at k_a (by decide) (by decide)).trans t156
      have t170 : σ162 fq 10 = v146 := (hFu164.at k_fq (by decide) (by decide)).trans t157
      have t171 : σ162 fq 11 = v158 := (hFu164.at k_fq (by decide) (by decide)).trans ev158
      refine sv_same (st2 := [sv_i vu164]) (lv2 := [(0, sv_r a)]) rfl rfl ?_
      exact sv_iret C hr (by decide +kernel) hok163 (⟨⟨_, rfl, ⟨by omega, by omega⟩⟩, hIu164, hGu164, by rw [xu164, t168]; omega, fq, t167, k_fq⟩)
    · refine sv_go C.1 C.2.1 [(.iconst 5, 1)] (pc' := 210) (by decide +kernel) rfl (lv' := [(0, sv_r a)]) (st' := [sv_i 5]) rfl ?_
      refine sv_goto C.1 C.2.1 (off := 8) (tgt := 218) (by decide +kernel) (by decide) ?_
      exact sv_iret C hr (by decide +kernel) hok147 (⟨⟨_, rfl, ⟨by omega, by omega⟩⟩, hI149, hF150, by rw [t154, t155]; omega, fq, t153, k_fq⟩)
  · refine sv_tsO C.1 C.2.1 (dflt := 177) (lo := 10) (hi := 16) (offs := #[44, 62, 79, 111, 129, 146, 163]) (len := 44) (tgt := 181) (by decide +kernel) ⟨by omega, by omega⟩ (by omega) (by decide) ?_
    refine sv_go C.1 C.2.1 [(.aload_n 0, 1)] (pc' := 182) (by decide +kernel) rfl (lv' := [(0, sv_r a)]) (st' := [sv_r a]) rfl ?_
    refine sv_gf C (index := 32) (ci := 5) (k := 4) (r := (RX6, TX6, 13)) (v := sv_r fq) (by decide +kernel) (by rw [k_a]; rfl) rfl (by decide) fl_X6_32 (congrArg sv_a pR4) ?_
    refine sv_go C.1 C.2.1 [(.aload_n 0, 1)] (pc' := 186) (by decide +kernel) rfl (lv' := [(0, sv_r a)]) (st' := [sv_r a, sv_r fq]) rfl ?_
    obtain ⟨v172, ev172, hv172⟩ := sv_rdk hok (a := a) (k := 9) (ci := 5) (r := (RX6, TX6, 13)) (by rw [k_a]; rfl) rfl (by decide) rfl
    refine sv_gf C (index := 86) (ci := 5) (k := 9) (r := (RX6, TX6, 13)) (v := sv_i v172) (by decide +kernel) (by rw [k_a]; rfl) rfl (by decide) fl_X6_86 (congrArg sv_i ev172) ?_
    refine sv_pf C (index := 223) (ci := 2) (k := 11) (r := (RX3, TX3, 12)) (z := v172) (by decide +kernel) (by rw [k_fq]; rfl) rfl (by decide) rfl fl_X6_223 rfl (Or.inl rfl) ⟨by omega, by omega⟩ (hTA _ (by rw [k_fq]; decide)) hok (fun hok173 => ?_)
    have hI175 := hI.up (a := fq) (k := 11) (z := v172) (by rw [k_fq]; exact trivial)
    have hF176 := hF.up (a := fq) (k := 11) (z := v172) (Or.inr (by rw [k_fq]; decide))
    generalize eσ174 : sv_up σ fq 11 v172 = σ174 at hok173 hI175 hF176 ⊢
    have t177 : σ174 a 2 = (tq : Int) + 1 := by rw [← eσ174, sv_up_a (sv_ne k_a k_fq (by decide))]; exact pR2
    have t178 : σ174 a 3 = (cq : Int) + 1 := by rw [← eσ174, sv_up_a (sv_ne k_a k_fq (by decide))]; exact pR3
    have t179 : σ174 a 4 = (fq : Int) + 1 := by rw [← eσ174, sv_up_a (sv_ne k_a k_fq (by decide))]; exact pR4
    have t180 : σ174 a 5 = n5 := by rw [← eσ174, sv_up_a (sv_ne k_a k_fq (by decide))]; exact qn5
    have t181 : σ174 cq 2 = n2 := by rw [← eσ174, sv_up_a (sv_ne k_cq k_fq (by decide))]; exact qn2
    have t182 : σ174 a 9 = v172 := by rw [← eσ174, sv_up_a (sv_ne k_a k_fq (by decide))]; exact ev172
    have t183 : σ174 fq 11 = v172 := by rw [← eσ174]; exact sv_up_s _ _ _ _
    refine sv_go C.1 C.2.1 [(.aload_n 0, 1)] (pc' := 193) (by decide +kernel) rfl (lv' := [(0, sv_r a)]) (st' := [sv_r a]) rfl ?_
    refine sv_gf C (index := 32) (ci := 5) (k := 4) (r := (RX6, TX6, 13)) (v := sv_r fq) (by decide +kernel) (by rw [k_a]; rfl) rfl (by decide) fl_X6_32 (congrArg sv_a t179) ?_
    obtain ⟨v184, ev184, hv184⟩ := sv_rdk hok173 (a := fq) (k := 10) (ci := 2) (r := (RX3, TX3, 12)) (by rw [k_fq]; rfl) rfl (by decide) rfl
    refine sv_gf C (index := 221) (ci := 2) (k := 10) (r := (RX3, TX3, 12)) (v := sv_i v184) (by decide +kernel) (by rw [k_fq]; rfl) rfl (by decide) fl_X6_221 (congrArg sv_i ev184) ?_
    refine sv_go C.1 C.2.1 [(.aload_n 0, 1)] (pc' := 200) (by decide +kernel) rfl (lv' := [(0, sv_r a)]) (st' := [sv_r a, sv_i v184]) rfl ?_
    refine sv_gf C (index := 32) (ci := 5) (k := 4) (r := (RX6, TX6, 13)) (v := sv_r fq) (by decide +kernel) (by rw [k_a]; rfl) rfl (by decide) fl_X6_32 (congrArg sv_a t179) ?_
    refine sv_gf C (index := 223) (ci := 2) (k := 11) (r := (RX3, TX3, 12)) (v := sv_i v172) (by decide +kernel) (by rw [k_fq]; rfl) rfl (by decide) fl_X6_223 (congrArg sv_i t183) ?_
    refine sv_icmp C.1 C.2.1 (cnd := .le) (off := 7) (tgt := 213) (by decide +kernel) (by decide) ⟨by omega, by omega⟩ ⟨by omega, by omega⟩ (fun (h185 : v184 ≤ v172) => ?_) (fun (h185 : ¬ (v184 ≤ v172)) => ?_)
    · refine sv_go C.1 C.2.1 [(.aload_n 0, 1), (.iconst 4, 1)] (pc' := 215) (by decide +kernel) rfl (lv' := [(0, sv_r a)]) (st' := [sv_i 4, sv_r a]) rfl ?_
      refine sv_cv C (index := 148) (k := 1) (rest := []) (ci := 5) (r := (RX6, TX6, 13)) (by decide +kernel) (sf_X6_goTo l g A ty σ174 hok173 hTA hI175 a k_a tq k_tq cq k_cq fq k_fq (4) ⟨by omega, by omega⟩ t177 t178 t179) ⟨co_X6_goTo, in_X6, ⟨by decide, by decide, by decide +kernel⟩, Nat.le_of_ble_eq_true rfl, Nat.le_of_ble_eq_true rfl⟩ ml_X6_148 im_X6_goTo se_X6_goTo (by rw [k_a]; rfl) rfl rfl rfl (Nat.le_of_ble_eq_true rfl) ⟨Nat.zero_le _, Nat.zero_le _⟩ (fun r187 σ188 hpo186 hok189 => ?_)
      obtain ⟨⟨vu190, rfl, hvu190⟩, hIu190, hFu190, xu190⟩ := hpo186
      have hGu190 := hF176.tr hFu190 (by decide) (by decide)
      have t191 : σ188 a 2 = (tq : Int) + 1 := (hFu190.at k_a (by decide) (by decide)).trans t177
      have t192 : σ188 a 3 = (cq : Int) + 1 := (hFu190.at k_a (by decide) (by decide)).trans t178
      have t193 : σ188 a 4 = (fq : Int) + 1 := (hFu190.at k_a (by decide) (by decide)).trans t179
      have t194 : σ188 cq 2 = n2 := (hFu190.at k_cq (by decide) (by decide)).trans t181
      have t195 : σ188 a 9 = v172 := (hFu190.at k_a (by decide) (by decide)).trans t182
      have t196 : σ188 fq 11 = v172 := (hFu190.at k_fq (by decide) (by decide)).trans t183
      have t197 : σ188 fq 10 = v184 := (hFu190.at k_fq (by decide) (by decide)).trans ev184
      refine sv_same (st2 := [sv_i vu190]) (lv2 := [(0, sv_r a)]) rfl rfl ?_
      exact sv_iret C hr (by decide +kernel) hok189 (⟨⟨_, rfl, ⟨by omega, by omega⟩⟩, hIu190, hGu190, by rw [xu190, t194]; omega, fq, t193, k_fq⟩)
    · refine sv_go C.1 C.2.1 [(.iconst 5, 1)] (pc' := 210) (by decide +kernel) rfl (lv' := [(0, sv_r a)]) (st' := [sv_i 5]) rfl ?_
      refine sv_goto C.1 C.2.1 (off := 8) (tgt := 218) (by decide +kernel) (by decide) ?_
      exact sv_iret C hr (by decide +kernel) hok173 (⟨⟨_, rfl, ⟨by omega, by omega⟩⟩, hI175, hF176, by rw [t180, t181]; omega, fq, t179, k_fq⟩)

theorem fl_X6_225 : Cond.fieldLink RX6 225 "SaintsRoad$Calendar" "yieldTimes" "I" ∈ lw_good := sv_mem 257 (by decide +kernel) rfl
theorem fl_X6_228 : Cond.fieldLink RX6 228 "SaintsRoad$Reader" "waxRank" "I" ∈ lw_good := sv_mem 137 (by decide +kernel) rfl
theorem fl_X6_231 : Cond.fieldLink RX6 231 "SaintsRoad$Calendar" "waxByRank" "[I" ∈ lw_good := sv_mem 247 (by decide +kernel) rfl
set_option maxHeartbeats 4000000 in
set_option maxRecDepth 100000 in
theorem sf_X6_keepOtherNumber (l : Launch) (g : sv_G) (A : Nat → Prop) (ty : Nat → Nat) (σ : Nat → Nat → Int) (hok : sv_ok ty σ) (hTA : ∀ q, ty q ≠ 0 → A q) (hI : sv_inv sp_1 ty σ) (a : Nat) (k_a : ty a = 3) (tq : Nat) (k_tq : ty tq = 2) (cq : Nat) (k_cq : ty cq = 7) (fq : Nat) (k_fq : ty fq = 8) (n5 : Int) (h_n5 : 0 ≤ n5 ∧ n5 ≤ 22) (n2 : Int) (h_n2 : 0 ≤ n2 ∧ n2 ≤ 60) (pR2 : σ a 2 = (tq : Int) + 1) (pR3 : σ a 3 = (cq : Int) + 1) (pR4 : σ a 4 = (fq : Int) + 1) (qn5 : σ a 5 = n5) (qn2 : σ cq 2 = n2) (hJ : n5 = 0 ∨ n5 = 5 ∨ 18 ≤ n5 ∨ n2 ≤ 59) (pm18 : 18 ≤ n5) (pw9 : n5 = 20 → 0 ≤ σ a 9 ∧ σ a 9 ≤ 8) : sv_M l yX6_keepOtherNumber cX6_keepOtherNumber 1 (some .int) { frames := 1, cells := 0, slots := 0, locals := 21 } g A ty σ [sv_r a] (fun r σ' => (∃ rv : Int, r = [sv_i rv] ∧ (0 ≤ rv ∧ rv ≤ 5)) ∧ sv_inv sp_1 ty σ' ∧ sv_ofx [(3, 5), (3, 12), (7, 3), (7, 4), (7, 5)] [23] ty σ σ' ∧ (σ' a 5 = 0 ∨ σ' a 5 = 5 ∨ 18 ≤ σ' a 5 ∨ σ' cq 2 ≤ 59) ∧ ∃ fz : Nat, σ' a 4 = (fz : Int) + 1 ∧ ty fz = 8) := by
  refine sv_enter (by decide) (Nat.le_of_ble_eq_true rfl) ?_
  intro p e s m args below meth c C hr
  have C : sv_C g A RX6 cX6_keepOtherNumber 1 p s m args meth c := C
  have hr : meth.sig.returnType = (some .int) := hr
  have hF : sv_ofx [(3, 5), (3, 12), (7, 3), (7, 4), (7, 5)] [23] ty σ σ := sv_ofx.rf
  refine sv_same (st2 := []) (lv2 := [(0, sv_r a)]) rfl rfl ?_
  refine sv_go C.1 C.2.1 [(.aload_n 0, 1)] (pc' := 1) (by decide +kernel) rfl (lv' := [(0, sv_r a)]) (st' := [sv_r a]) rfl ?_
  refine sv_gf C (index := 36) (ci := 5) (k := 5) (r := (RX6, TX6, 13)) (v := sv_i n5) (by decide +kernel) (by rw [k_a]; rfl) rfl (by decide) fl_X6_36 (congrArg sv_i qn5) ?_
  rcases (show n5 = 18 ∨ n5 = 19 ∨ n5 = 20 ∨ n5 = 21 ∨ (n5 ≠ 18 ∧ n5 ≠ 19 ∧ n5 ≠ 20 ∧ n5 ≠ 21) by omega) with h1 | h1 | h1 | h1 | h1
  · refine sv_tsI C.1 C.2.1 (dflt := 124) (lo := 18) (hi := 21) (offs := #[32, 50, 67, 102]) (len := 32) (off := 32) (tgt := 36) (by decide +kernel) 18 h1 (by decide) rfl (by decide) ?_
    refine sv_go C.1 C.2.1 [(.aload_n 0, 1)] (pc' := 37) (by decide +kernel) rfl (lv' := [(0, sv_r a)]) (st' := [sv_r a]) rfl ?_
    refine sv_gf C (index := 19) (ci := 5) (k := 3) (r := (RX6, TX6, 13)) (v := sv_r cq) (by decide +kernel) (by rw [k_a]; rfl) rfl (by decide) fl_X6_19 (congrArg sv_a pR3) ?_
    refine sv_go C.1 C.2.1 [(.aload_n 0, 1)] (pc' := 41) (by decide +kernel) rfl (lv' := [(0, sv_r a)]) (st' := [sv_r a, sv_r cq]) rfl ?_
    obtain ⟨v2, ev2, hv2⟩ := sv_rdk hok (a := a) (k := 9) (ci := 5) (r := (RX6, TX6, 13)) (by rw [k_a]; rfl) rfl (by decide) rfl
    refine sv_gf C (index := 86) (ci := 5) (k := 9) (r := (RX6, TX6, 13)) (v := sv_i v2) (by decide +kernel) (by rw [k_a]; rfl) rfl (by decide) fl_X6_86 (congrArg sv_i ev2) ?_
    refine sv_pf C (index := 156) (ci := 1) (k := 3) (r := (RX1, TX1, 6)) (z := v2) (by decide +kernel) (by rw [k_cq]; rfl) rfl (by decide) rfl fl_X6_156 rfl (Or.inl rfl) ⟨by omega, by omega⟩ (hTA _ (by rw [k_cq]; decide)) hok (fun hok3 => ?_)
    have hI5 := hI.up (a := cq) (k := 3) (z := v2) (by rw [k_cq]; exact trivial)
    have hF6 := hF.up (a := cq) (k := 3) (z := v2) (Or.inr (by rw [k_cq]; decide))
    generalize eσ4 : sv_up σ cq 3 v2 = σ4 at hok3 hI5 hF6 ⊢
    have t7 : σ4 a 2 = (tq : Int) + 1 := by rw [← eσ4, sv_up_a (sv_ne k_a k_cq (by decide))]; exact pR2
    have t8 : σ4 a 3 = (cq : Int) + 1 := by rw [← eσ4, sv_up_a (sv_ne k_a k_cq (by decide))]; exact pR3
    have t9 : σ4 a 4 = (fq : Int) + 1 := by rw [← eσ4, sv_up_a (sv_ne k_a k_cq (by decide))]; exact pR4
    have t10 : σ4 a 5 = n5 := by rw [← eσ4, sv_up_a (sv_ne k_a k_cq (by decide))]; exact qn5
    have t11 : σ4 cq 2 = n2 := by rw [← eσ4, sv_up_k (by decide)]; exact qn2
    have t12 : σ4 a 9 = v2 := by rw [← eσ4, sv_up_a (sv_ne k_a k_cq (by decide))]; exact ev2
    have t13 : σ4 cq 3 = v2 := by rw [← eσ4]; exact sv_up_s _ _ _ _
    refine sv_go C.1 C.2.1 [(.aload_n 0, 1), (.bipush 19, 2)] (pc' := 50) (by decide +kernel) rfl (lv' := [(0, sv_r a)]) (st' := [sv_i 19, sv_r a]) rfl ?_
    refine sv_cv C (index := 148) (k := 1) (rest := []) (ci := 5) (r := (RX6, TX6, 13)) (by decide +kernel) (sf_X6_goTo l g A ty σ4 hok3 hTA hI5 a k_a tq k_tq cq k_cq fq k_fq (19) ⟨by omega, by omega⟩ t7 t8 t9) ⟨co_X6_goTo, in_X6, ⟨by decide, by decide, by decide +kernel⟩, Nat.le_of_ble_eq_true rfl, Nat.le_of_ble_eq_true rfl⟩ ml_X6_148 im_X6_goTo se_X6_goTo (by rw [k_a]; rfl) rfl rfl rfl (Nat.le_of_ble_eq_true rfl) ⟨Nat.zero_le _, Nat.zero_le _⟩ (fun r15 σ16 hpo14 hok17 => ?_)
    obtain ⟨⟨vu18, rfl, hvu18⟩, hIu18, hFu18, xu18⟩ := hpo14
    have hGu18 := hF6.tr hFu18 (by decide) (by decide)
    have t19 : σ16 a 2 = (tq : Int) + 1 := (hFu18.at k_a (by decide) (by decide)).trans t7
    have t20 : σ16 a 3 = (cq : Int) + 1 := (hFu18.at k_a (by decide) (by decide)).trans t8
    have t21 : σ16 a 4 = (fq : Int) + 1 := (hFu18.at k_a (by decide) (by decide)).trans t9
    have t22 : σ16 cq 2 = n2 := (hFu18.at k_cq (by decide) (by decide)).trans t11
    have t23 : σ16 a 9 = v2 := (hFu18.at k_a (by decide) (by decide)).trans t12
    have t24 : σ16 cq 3 = v2 := (hFu18.at k_cq (by decide) (by decide)).trans t13
    refine sv_same (st2 := [sv_i vu18]) (lv2 := [(0, sv_r a)]) rfl rfl ?_
    exact sv_iret C hr (by decide +kernel) hok17 (⟨⟨_, rfl, ⟨by omega, by omega⟩⟩, hIu18, hGu18, by rw [xu18, t22]; omega, fq, t21, k_fq⟩)
  · refine sv_tsI C.1 C.2.1 (dflt := 124) (lo := 18) (hi := 21) (offs := #[32, 50, 67, 102]) (len := 32) (off := 50) (tgt := 54) (by decide +kernel) 19 h1 (by decide) rfl (by decide) ?_
    refine sv_go C.1 C.2.1 [(.aload_n 0, 1)] (pc' := 55) (by decide +kernel) rfl (lv' := [(0, sv_r a)]) (st' := [sv_r a]) rfl ?_
    refine sv_gf C (index := 19) (ci := 5) (k := 3) (r := (RX6, TX6, 13)) (v := sv_r cq) (by decide +kernel) (by rw [k_a]; rfl) rfl (by decide) fl_X6_19 (congrArg sv_a pR3) ?_
    refine sv_go C.1 C.2.1 [(.aload_n 0, 1)] (pc' := 59) (by decide +kernel) rfl (lv' := [(0, sv_r a)]) (st' := [sv_r a, sv_r cq]) rfl ?_
    obtain ⟨v25, ev25, hv25⟩ := sv_rdk hok (a := a) (k := 9) (ci := 5) (r := (RX6, TX6, 13)) (by rw [k_a]; rfl) rfl (by decide) rfl
    refine sv_gf C (index := 86) (ci := 5) (k := 9) (r := (RX6, TX6, 13)) (v := sv_i v25) (by decide +kernel) (by rw [k_a]; rfl) rfl (by decide) fl_X6_86 (congrArg sv_i ev25) ?_
    refine sv_pf C (index := 225) (ci := 1) (k := 4) (r := (RX1, TX1, 6)) (z := v25) (by decide +kernel) (by rw [k_cq]; rfl) rfl (by decide) rfl fl_X6_225 rfl (Or.inl rfl) ⟨by omega, by omega⟩ (hTA _ (by rw [k_cq]; decide)) hok (fun hok26 => ?_)
    have hI28 := hI.up (a := cq) (k := 4) (z := v25) (by rw [k_cq]; exact trivial)
    have hF29 := hF.up (a := cq) (k := 4) (z := v25) (Or.inr (by rw [k_cq]; decide))
    generalize eσ27 : sv_up σ cq 4 v25 = σ27 at hok26 hI28 hF29 ⊢
    have t30 : σ27 a 2 = (tq : Int) + 1 := by rw [← eσ27, sv_up_a (sv_ne k_a k_cq (by decide))]; exact pR2
    have t31 : σ27 a 3 = (cq : Int) + 1 := by rw [← eσ27, sv_up_a (sv_ne k_a k_cq (by decide))]; exact pR3
    have t32 : σ27 a 4 = (fq : Int) + 1 := by rw [← eσ27, sv_up_a (sv_ne k_a k_cq (by decide))]; exact pR4
    have t33 : σ27 a 5 = n5 := by rw [← eσ27, sv_up_a (sv_ne k_a k_cq (by decide))]; exact qn5
    have t34 : σ27 cq 2 = n2 := by rw [← eσ27, sv_up_k (by decide)]; exact qn2
    have t35 : σ27 a 9 = v25 := by rw [← eσ27, sv_up_a (sv_ne k_a k_cq (by decide))]; exact ev25
    have t36 : σ27 cq 4 = v25 := by rw [← eσ27]; exact sv_up_s _ _ _ _
    refine sv_go C.1 C.2.1 [(.aload_n 0, 1), (.iconst 5, 1)] (pc' := 67) (by decide +kernel) rfl (lv' := [(0, sv_r a)]) (st' := [sv_i 5, sv_r a]) rfl ?_
    refine sv_cv C (index := 148) (k := 1) (rest := []) (ci := 5) (r := (RX6, TX6, 13)) (by decide +kernel) (sf_X6_goTo l g A ty σ27 hok26 hTA hI28 a k_a tq k_tq cq k_cq fq k_fq (5) ⟨by omega, by omega⟩ t30 t31 t32) ⟨co_X6_goTo, in_X6, ⟨by decide, by decide, by decide +kernel⟩, Nat.le_of_ble_eq_true rfl, Nat.le_of_ble_eq_true rfl⟩ ml_X6_148 im_X6_goTo se_X6_goTo (by rw [k_a]; rfl) rfl rfl rfl (Nat.le_of_ble_eq_true rfl) ⟨Nat.zero_le _, Nat.zero_le _⟩ (fun r38 σ39 hpo37 hok40 => ?_)
    obtain ⟨⟨vu41, rfl, hvu41⟩, hIu41, hFu41, xu41⟩ := hpo37
    have hGu41 := hF29.tr hFu41 (by decide) (by decide)
    have t42 : σ39 a 2 = (tq : Int) + 1 := (hFu41.at k_a (by decide) (by decide)).trans t30
    have t43 : σ39 a 3 = (cq : Int) + 1 := (hFu41.at k_a (by decide) (by decide)).trans t31
    have t44 : σ39 a 4 = (fq : Int) + 1 := (hFu41.at k_a (by decide) (by decide)).trans t32
    have t45 : σ39 cq 2 = n2 := (hFu41.at k_cq (by decide) (by decide)).trans t34
    have t46 : σ39 a 9 = v25 := (hFu41.at k_a (by decide) (by decide)).trans t35
    have t47 : σ39 cq 4 = v25 := (hFu41.at k_cq (by decide) (by decide)).trans t36
    refine sv_same (st2 := [sv_i vu41]) (lv2 := [(0, sv_r a)]) rfl rfl ?_
    exact sv_iret C hr (by decide +kernel) hok40 (⟨⟨_, rfl, ⟨by omega, by omega⟩⟩, hIu41, hGu41, by rw [xu41, t45]; omega, fq, t44, k_fq⟩)
  · refine sv_tsI C.1 C.2.1 (dflt := 124) (lo := 18) (hi := 21) (offs := #[32, 50, 67, 102]) (len := 32) (off := 67) (tgt := 71) (by decide +kernel) 20 h1 (by decide) rfl (by decide) ?_
    refine sv_go C.1 C.2.1 [(.aload_n 0, 1), (.aload_n 0, 1)] (pc' := 73) (by decide +kernel) rfl (lv' := [(0, sv_r a)]) (st' := [sv_r a, sv_r a]) rfl ?_
    obtain ⟨v48, ev48, hv48⟩ := sv_rdk hok (a := a) (k := 9) (ci := 5) (r := (RX6, TX6, 13)) (by rw [k_a]; rfl) rfl (by decide) rfl
    refine sv_gf C (index := 86) (ci := 5) (k := 9) (r := (RX6, TX6, 13)) (v := sv_i v48) (by decide +kernel) (by rw [k_a]; rfl) rfl (by decide) fl_X6_86 (congrArg sv_i ev48) ?_
    refine sv_pf C (index := 228) (ci := 5) (k := 12) (r := (RX6, TX6, 13)) (z := v48) (by decide +kernel) (by rw [k_a]; rfl) rfl (by decide) rfl fl_X6_228 rfl (Or.inl rfl) ⟨by omega, by omega⟩ (hTA _ (by rw [k_a]; decide)) hok (fun hok49 => ?_)
    have hI51 := hI.up (a := a) (k := 12) (z := v48) (by rw [k_a]; exact ⟨by omega, by omega⟩)
    have hF52 := hF.up (a := a) (k := 12) (z := v48) (Or.inr (by rw [k_a]; decide))
    generalize eσ50 : sv_up σ a 12 v48 = σ50 at hok49 hI51 hF52 ⊢
    have t53 : σ50 a 2 = (tq : Int) + 1 := by rw [← eσ50, sv_up_k (by decide)]; exact pR2
    have t54 : σ50 a 3 = (cq : Int) + 1 := by rw [← eσ50, sv_up_k (by decide)]; exact pR3
    have t55 : σ50 a 4 = (fq : Int) + 1 := by rw [← eσ50, sv_up_k (by decide)]; exact pR4
    have t56 : σ50 a 5 = n5 := by rw [← eσ50, sv_up_k (by decide)]; exact qn5
    have t57 : σ50 cq 2 = n2 := by rw [← eσ50, sv_up_a (sv_ne k_cq k_a (by decide))]; exact qn2
    have t58 : σ50 a 9 = v48 := by rw [← eσ50, sv_up_k (by decide)]; exact ev48
    have t59 : σ50 a 12 = v48 := by rw [← eσ50]; exact sv_up_s _ _ _ _
    refine sv_go C.1 C.2.1 [(.aload_n 0, 1)] (pc' := 80) (by decide +kernel) rfl (lv' := [(0, sv_r a)]) (st' := [sv_r a]) rfl ?_
    refine sv_gf C (index := 19) (ci := 5) (k := 3) (r := (RX6, TX6, 13)) (v := sv_r cq) (by decide +kernel) (by rw [k_a]; rfl) rfl (by decide) fl_X6_19 (congrArg sv_a t54) ?_
    obtain ⟨v60, ev60, kv60⟩ := hI51.ref (k := 1) k_cq rfl
    refine sv_gf C (index := 231) (ci := 1) (k := 1) (r := (RX1, TX1, 6)) (v := sv_r v60) (by decide +kernel) (by rw [k_cq]; rfl) rfl (by decide) fl_X6_231 (congrArg sv_a ev60) ?_
    refine sv_go C.1 C.2.1 [(.aload_n 0, 1)] (pc' := 87) (by decide +kernel) rfl (lv' := [(0, sv_r a)]) (st' := [sv_r a, sv_r v60]) rfl ?_
    refine sv_gf C (index := 228) (ci := 5) (k := 12) (r := (RX6, TX6, 13)) (v := sv_i v48) (by decide +kernel) (by rw [k_a]; rfl) rfl (by decide) fl_X6_228 (congrArg sv_i t59) ?_
    refine sv_ia C (n := 9) (by decide +kernel) (by rw [kv60]; rfl) (by decide) (by omega) (by omega) ?_
    obtain ⟨v61, ev61, hv61⟩ := sv_rde hok49 (a := v60) (k := (v48 : Int).toNat) (n := 9) (by rw [kv60]; rfl) (by omega)
    rw [ev61]
    refine sv_go C.1 C.2.1 [(.iconst (-1), 1)] (pc' := 92) (by decide +kernel) rfl (lv' := [(0, sv_r a)]) (st' := [sv_i ((-1)), sv_i v61]) rfl ?_
    refine sv_icmp C.1 C.2.1 (cnd := .eq) (off := 7) (tgt := 99) (by decide +kernel) (by decide) ⟨by omega, by omega⟩ ⟨by omega, by omega⟩ (fun (h62 : v61 = ((-1))) => ?_) (fun (h62 : ¬ (v61 = ((-1)))) => ?_)
    · refine sv_go C.1 C.2.1 [(.aload_n 0, 1), (.bipush 21, 2)] (pc' := 102) (by decide +kernel) rfl (lv' := [(0, sv_r a)]) (st' := [sv_i 21, sv_r a]) rfl ?_
      refine sv_cv C (index := 148) (k := 1) (rest := []) (ci := 5) (r := (RX6, TX6, 13)) (by decide +kernel) (sf_X6_goTo l g A ty σ50 hok49 hTA hI51 a k_a tq k_tq cq k_cq fq k_fq (21) ⟨by omega, by omega⟩ t53 t54 t55) ⟨co_X6_goTo, in_X6, ⟨by decide, by decide, by decide +kernel⟩, Nat.le_of_ble_eq_true rfl, Nat.le_of_ble_eq_true rfl⟩ ml_X6_148 im_X6_goTo se_X6_goTo (by rw [k_a]; rfl) rfl rfl rfl (Nat.le_of_ble_eq_true rfl) ⟨Nat.zero_le _, Nat.zero_le _⟩ (fun r64 σ65 hpo63 hok66 => ?_)
      obtain ⟨⟨vu67, rfl, hvu67⟩, hIu67, hFu67, xu67⟩ := hpo63
      have hGu67 := hF52.tr hFu67 (by decide) (by decide)
      have t68 : σ65 a 2 = (tq : Int) + 1 := (hFu67.at k_a (by decide) (by decide)).trans t53
      have t69 : σ65 a 3 = (cq : Int) + 1 := (hFu67.at k_a (by decide) (by decide)).trans t54
      have t70 : σ65 a 4 = (fq : Int) + 1 := (hFu67.at k_a (by decide) (by decide)).trans t55
      have t71 : σ65 cq 2 = n2 := (hFu67.at k_cq (by decide) (by decide)).trans t57
      have t72 : σ65 a 9 = v48 := (hFu67.at k_a (by decide) (by decide)).trans t58
      have t73 : σ65 a 12 = v48 := (hFu67.at k_a (by decide) (by decide)).trans t59
      have t74 : σ65 cq 1 = (v60 : Int) + 1 := (hFu67.at k_cq (by decide) (by decide)).trans ev60
      have t75 : σ65 v60 (v48 : Int).toNat = v61 := (hFu67.atA kv60 (by decide) (by decide)).trans ev61
      refine sv_same (st2 := [sv_i vu67]) (lv2 := [(0, sv_r a)]) rfl rfl ?_
      exact sv_iret C hr (by decide +kernel) hok66 (⟨⟨_, rfl, ⟨by omega, by omega⟩⟩, hIu67, hGu67, by rw [xu67, t71]; omega, fq, t70, k_fq⟩)
    · refine sv_go C.1 C.2.1 [(.iconst 5, 1)] (pc' := 96) (by decide +kernel) rfl (lv' := [(0, sv_r a)]) (st' := [sv_i 5]) rfl ?_
      refine sv_goto C.1 C.2.1 (off := 9) (tgt := 105) (by decide +kernel) (by decide) ?_
      exact sv_iret C hr (by decide +kernel) hok49 (⟨⟨_, rfl, ⟨by omega, by omega⟩⟩, hI51, hF52, by rw [t56, t57]; omega, fq, t55, k_fq⟩)
  · refine sv_tsI C.1 C.2.1 (dflt := 124) (lo := 18) (hi := 21) (offs := #[32, 50, 67, 102]) (len := 32) (off := 102) (tgt := 106) (by decide +kernel) 21 h1 (by decide) rfl (by decide) ?_
    refine sv_go C.1 C.2.1 [(.aload_n 0, 1)] (pc' := 107) (by decide +kernel) rfl (lv' := [(0, sv_r a)]) (st' := [sv_r a]) rfl ?_
    refine sv_gf C (index := 19) (ci := 5) (k := 3) (r := (RX6, TX6, 13)) (v := sv_r cq) (by decide +kernel) (by rw [k_a]; rfl) rfl (by decide) fl_X6_19 (congrArg sv_a pR3) ?_
    obtain ⟨v76, ev76, kv76⟩ := hI.ref (k := 1) k_cq rfl
    refine sv_gf C (index := 231) (ci := 1) (k := 1) (r := (RX1, TX1, 6)) (v := sv_r v76) (by decide +kernel) (by rw [k_cq]; rfl) rfl (by decide) fl_X6_231 (congrArg sv_a ev76) ?_
    refine sv_go C.1 C.2.1 [(.aload_n 0, 1)] (pc' := 114) (by decide +kernel) rfl (lv' := [(0, sv_r a)]) (st' := [sv_r a, sv_r v76]) rfl ?_
    obtain ⟨v77, ev77, hv77⟩ := sv_rdn hI (k := 12) k_a rfl
    refine sv_gf C (index := 228) (ci := 5) (k := 12) (r := (RX6, TX6, 13)) (v := sv_i v77) (by decide +kernel) (by rw [k_a]; rfl) rfl (by decide) fl_X6_228 (congrArg sv_i ev77) ?_
    refine sv_go C.1 C.2.1 [(.aload_n 0, 1)] (pc' := 118) (by decide +kernel) rfl (lv' := [(0, sv_r a)]) (st' := [sv_r a, sv_i v77, sv_r v76]) rfl ?_
    obtain ⟨v78, ev78, hv78⟩ := sv_rdk hok (a := a) (k := 9) (ci := 5) (r := (RX6, TX6, 13)) (by rw [k_a]; rfl) rfl (by decide) rfl
    refine sv_gf C (index := 86) (ci := 5) (k := 9) (r := (RX6, TX6, 13)) (v := sv_i v78) (by decide +kernel) (by rw [k_a]; rfl) rfl (by decide) fl_X6_86 (congrArg sv_i ev78) ?_
    refine sv_is C (n := 9) (by decide +kernel) (by rw [kv76]; rfl) (by decide) (by omega) (by omega) ⟨by omega, by omega⟩ (hTA _ (by rw [kv76]; decide)) hok (fun hok79 => ?_)
    have hI81 := hI.up (a := v76) (k := (v77 : Int).toNat) (z := v78) (by rw [kv76]; exact trivial)
    have hF82 := hF.up (a := v76) (k := (v77 : Int).toNat) (z := v78) (Or.inl (by rw [kv76]; decide))
    generalize eσ80 : sv_up σ v76 (v77 : Int).toNat v78 = σ80 at hok79 hI81 hF82 ⊢
    have t83 : σ80 a 2 = (tq : Int) + 1 := by rw [← eσ80, sv_up_a (sv_ne k_a kv76 (by decide))]; exact pR2
    have t84 : σ80 a 3 = (cq : Int) + 1 := by rw [← eσ80, sv_up_a (sv_ne k_a kv76 (by decide))]; exact pR3
    have t85 : σ80 a 4 = (fq : Int) + 1 := by rw [← eσ80, sv_up_a (sv_ne k_a kv76 (by decide))]; exact pR4
    have t86 : σ80 a 5 = n5 := by rw [← eσ80, sv_up_a (sv_ne k_a kv76 (by decide))]; exact qn5
    have t87 : σ80 cq 2 = n2 := by rw [← eσ80, sv_up_a (sv_ne k_cq kv76 (by decide))]; exact qn2
    have t88 : σ80 cq 1 = (v76 : Int) + 1 := by rw [← eσ80, sv_up_a (sv_ne k_cq kv76 (by decide))]; exact ev76
    have t89 : σ80 a 12 = v77 := by rw [← eσ80, sv_up_a (sv_ne k_a kv76 (by decide))]; exact ev77
    have t90 : σ80 a 9 = v78 := by rw [← eσ80, sv_up_a (sv_ne k_a kv76 (by decide))]; exact ev78
    have t91 : σ80 v76 (v77 : Int).toNat = v78 := by rw [← eσ80]; exact sv_up_s _ _ _ _
    refine sv_go C.1 C.2.1 [(.aload_n 0, 1), (.iconst 5, 1)] (pc' := 124) (by decide +kernel) rfl (lv' := [(0, sv_r a)]) (st' := [sv_i 5, sv_r a]) rfl ?_
    refine sv_cv C (index := 148) (k := 1) (rest := []) (ci := 5) (r := (RX6, TX6, 13)) (by decide +kernel) (sf_X6_goTo l g A ty σ80 hok79 hTA hI81 a k_a tq k_tq cq k_cq fq k_fq (5) ⟨by omega, by omega⟩ t83 t84 t85) ⟨co_X6_goTo, in_X6, ⟨by decide, by decide, by decide +kernel⟩, Nat.le_of_ble_eq_true rfl, Nat.le_of_ble_eq_true rfl⟩ ml_X6_148 im_X6_goTo se_X6_goTo (by rw [k_a]; rfl) rfl rfl rfl (Nat.le_of_ble_eq_true rfl) ⟨Nat.zero_le _, Nat.zero_le _⟩ (fun r93 σ94 hpo92 hok95 => ?_)
    obtain ⟨⟨vu96, rfl, hvu96⟩, hIu96, hFu96, xu96⟩ := hpo92
    have hGu96 := hF82.tr hFu96 (by decide) (by decide)
    have t97 : σ94 a 2 = (tq : Int) + 1 := (hFu96.at k_a (by decide) (by decide)).trans t83
    have t98 : σ94 a 3 = (cq : Int) + 1 := (hFu96.at k_a (by decide) (by decide)).trans t84
    have t99 : σ94 a 4 = (fq : Int) + 1 := (hFu96.at k_a (by decide) (by decide)).trans t85
    have t100 : σ94 cq 2 = n2 := (hFu96.at k_cq (by decide) (by decide)).trans t87
    have t101 : σ94 cq 1 = (v76 : Int) + 1 := (hFu96.at k_cq (by decide) (by decide)).trans t88
    have t102 : σ94 a 12 = v77 := (hFu96.at k_a (by decide) (by decide)).trans t89
    have t103 : σ94 a 9 = v78 := (hFu96.at k_a (by decide) (by decide)).trans t90
    have t104 : σ94 v76 (v77 : Int).toNat = v78 := (hFu96.atA kv76 (by decide) (by decide)).trans t91
    refine sv_same (st2 := [sv_i vu96]) (lv2 := [(0, sv_r a)]) rfl rfl ?_
    exact sv_iret C hr (by decide +kernel) hok95 (⟨⟨_, rfl, ⟨by omega, by omega⟩⟩, hIu96, hGu96, by rw [xu96, t100]; omega, fq, t99, k_fq⟩)
  · refine sv_tsO C.1 C.2.1 (dflt := 124) (lo := 18) (hi := 21) (offs := #[32, 50, 67, 102]) (len := 32) (tgt := 128) (by decide +kernel) ⟨by omega, by omega⟩ (by omega) (by decide) ?_
    refine sv_go C.1 C.2.1 [(.aload_n 0, 1)] (pc' := 129) (by decide +kernel) rfl (lv' := [(0, sv_r a)]) (st' := [sv_r a]) rfl ?_
    refine sv_gf C (index := 19) (ci := 5) (k := 3) (r := (RX6, TX6, 13)) (v := sv_r cq) (by decide +kernel) (by rw [k_a]; rfl) rfl (by decide) fl_X6_19 (congrArg sv_a pR3) ?_
    refine sv_go C.1 C.2.1 [(.aload_n 0, 1)] (pc' := 133) (by decide +kernel) rfl (lv' := [(0, sv_r a)]) (st' := [sv_r a, sv_r cq]) rfl ?_
    obtain ⟨v105, ev105, hv105⟩ := sv_rdk hok (a := a) (k := 9) (ci := 5) (r := (RX6, TX6, 13)) (by rw [k_a]; rfl) rfl (by decide) rfl
    refine sv_gf C (index := 86) (ci := 5) (k := 9) (r := (RX6, TX6, 13)) (v := sv_i v105) (by decide +kernel) (by rw [k_a]; rfl) rfl (by decide) fl_X6_86 (congrArg sv_i ev105) ?_
    refine sv_pf C (index := 159) (ci := 1) (k := 5) (r := (RX1, TX1, 6)) (z := v105) (by decide +kernel) (by rw [k_cq]; rfl) rfl (by decide) rfl fl_X6_159 rfl (Or.inl rfl) ⟨by omega, by omega⟩ (hTA _ (by rw [k_cq]; decide)) hok (fun hok106 => ?_)
    have hI108 := hI.up (a := cq) (k := 5) (z := v105) (by rw [k_cq]; exact trivial)
    have hF109 := hF.up (a := cq) (k := 5) (z := v105) (Or.inr (by rw [k_cq]; decide))
    generalize eσ107 : sv_up σ cq 5 v105 = σ107 at hok106 hI108 hF109 ⊢
    have t110 : σ107 a 2 = (tq : Int) + 1 := by rw [← eσ107, sv_up_a (sv_ne k_a k_cq (by decide))]; exact pR2
    have t111 : σ107 a 3 = (cq : Int) + 1 := by rw [← eσ107, sv_up_a (sv_ne k_a k_cq (by decide))]; exact pR3
    have t112 : σ107 a 4 = (fq : Int) + 1 := by rw [← eσ107, sv_up_a (sv_ne k_a k_cq (by decide))]; exact pR4
    have t113 : σ107 a 5 = n5 := by rw [← eσ107, sv_up_a (sv_ne k_a k_cq (by decide))]; exact qn5
    have t114 : σ107 cq 2 = n2 := by rw [← eσ107, sv_up_k (by decide)]; exact qn2
    have t115 : σ107 a 9 = v105 := by rw [← eσ107, sv_up_a (sv_ne k_a k_cq (by decide))]; exact ev105
    have t116 : σ107 cq 5 = v105 := by rw [← eσ107]; exact sv_up_s _ _ _ _
    refine sv_go C.1 C.2.1 [(.aload_n 0, 1), (.iconst 5, 1)] (pc' := 141) (by decide +kernel) rfl (lv' := [(0, sv_r a)]) (st' := [sv_i 5, sv_r a]) rfl ?_
    refine sv_cv C (index := 148) (k := 1) (rest := []) (ci := 5) (r := (RX6, TX6, 13)) (by decide +kernel) (sf_X6_goTo l g A ty σ107 hok106 hTA hI108 a k_a tq k_tq cq k_cq fq k_fq (5) ⟨by omega, by omega⟩ t110 t111 t112) ⟨co_X6_goTo, in_X6, ⟨by decide, by decide, by decide +kernel⟩, Nat.le_of_ble_eq_true rfl, Nat.le_of_ble_eq_true rfl⟩ ml_X6_148 im_X6_goTo se_X6_goTo (by rw [k_a]; rfl) rfl rfl rfl (Nat.le_of_ble_eq_true rfl) ⟨Nat.zero_le _, Nat.zero_le _⟩ (fun r118 σ119 hpo117 hok120 => ?_)
    obtain ⟨⟨vu121, rfl, hvu121⟩, hIu121, hFu121, xu121⟩ := hpo117
    have hGu121 := hF109.tr hFu121 (by decide) (by decide)
    have t122 : σ119 a 2 = (tq : Int) + 1 := (hFu121.at k_a (by decide) (by decide)).trans t110
    have t123 : σ119 a 3 = (cq : Int) + 1 := (hFu121.at k_a (by decide) (by decide)).trans t111
    have t124 : σ119 a 4 = (fq : Int) + 1 := (hFu121.at k_a (by decide) (by decide)).trans t112
    have t125 : σ119 cq 2 = n2 := (hFu121.at k_cq (by decide) (by decide)).trans t114
    have t126 : σ119 a 9 = v105 := (hFu121.at k_a (by decide) (by decide)).trans t115
    have t127 : σ119 cq 5 = v105 := (hFu121.at k_cq (by decide) (by decide)).trans t116
    refine sv_same (st2 := [sv_i vu121]) (lv2 := [(0, sv_r a)]) rfl rfl ?_
    exact sv_iret C hr (by decide +kernel) hok120 (⟨⟨_, rfl, ⟨by omega, by omega⟩⟩, hIu121, hGu121, by rw [xu121, t125]; omega, fq, t124, k_fq⟩)

theorem ml_X6_190 : Cond.methodLink RX6 190 yX6_leastNumber ∈ lw_good := sv_mem 576 (by decide +kernel) rfl
theorem co_X6_leastNumber : Cond.code yX6_leastNumber cX6_leastNumber 1 (some .int) ∈ lw_good := sv_mem 579 (by decide +kernel) rfl
theorem im_X6_leastNumber : Cond.instanceMethod yX6_leastNumber ∈ lw_good := sv_mem 578 (by decide +kernel) rfl
theorem se_X6_leastNumber : Cond.selects RX6 yX6_leastNumber yX6_leastNumber ∈ lw_good := sv_mem 11 (by decide +kernel) rfl
theorem ml_X6_193 : Cond.methodLink RX6 193 yX6_mostNumber ∈ lw_good := sv_mem 580 (by decide +kernel) rfl
theorem co_X6_mostNumber : Cond.code yX6_mostNumber cX6_mostNumber 1 (some .int) ∈ lw_good := sv_mem 583 (by decide +kernel) rfl
theorem im_X6_mostNumber : Cond.instanceMethod yX6_mostNumber ∈ lw_good := sv_mem 582 (by decide +kernel) rfl
theorem se_X6_mostNumber : Cond.selects RX6 yX6_mostNumber yX6_mostNumber ∈ lw_good := sv_mem 12 (by decide +kernel) rfl
theorem ml_X6_199 : Cond.methodLink RX6 199 yX6_keepOtherNumber ∈ lw_good := sv_mem 593 (by decide +kernel) rfl
theorem co_X6_keepOtherNumber : Cond.code yX6_keepOtherNumber cX6_keepOtherNumber 1 (some .int) ∈ lw_good := sv_mem 596 (by decide +kernel) rfl
theorem im_X6_keepOtherNumber : Cond.instanceMethod yX6_keepOtherNumber ∈ lw_good := sv_mem 595 (by decide +kernel) rfl
theorem se_X6_keepOtherNumber : Cond.selects RX6 yX6_keepOtherNumber yX6_keepOtherNumber ∈ lw_good := sv_mem 14 (by decide +kernel) rfl
theorem ml_X6_196 : Cond.methodLink RX6 196 yX6_keepFeastNumber ∈ lw_good := sv_mem 589 (by decide +kernel) rfl
theorem co_X6_keepFeastNumber : Cond.code yX6_keepFeastNumber cX6_keepFeastNumber 1 (some .int) ∈ lw_good := sv_mem 592 (by decide +kernel) rfl
theorem im_X6_keepFeastNumber : Cond.instanceMethod yX6_keepFeastNumber ∈ lw_good := sv_mem 591 (by decide +kernel) rfl
theorem se_X6_keepFeastNumber : Cond.selects RX6 yX6_keepFeastNumber yX6_keepFeastNumber ∈ lw_good := sv_mem 13 (by decide +kernel) rfl
set_option maxHeartbeats 4000000 in
set_option maxRecDepth 100000 in
theorem sf_X6_takeNumber (l : Launch) (g : sv_G) (A : Nat → Prop) (ty : Nat → Nat) (σ : Nat → Nat → Int) (hok : sv_ok ty σ) (hTA : ∀ q, ty q ≠ 0 → A q) (hI : sv_inv sp_1 ty σ) (a : Nat) (k_a : ty a = 3) (tq : Nat) (k_tq : ty tq = 2) (cq : Nat) (k_cq : ty cq = 7) (fq : Nat) (k_fq : ty fq = 8) (n5 : Int) (h_n5 : 0 ≤ n5 ∧ n5 ≤ 22) (n2 : Int) (h_n2 : 0 ≤ n2 ∧ n2 ≤ 60) (pR2 : σ a 2 = (tq : Int) + 1) (pR3 : σ a 3 = (cq : Int) + 1) (pR4 : σ a 4 = (fq : Int) + 1) (qn5 : σ a 5 = n5) (qn2 : σ cq 2 = n2) (hJ : n5 = 0 ∨ n5 = 5 ∨ 18 ≤ n5 ∨ n2 ≤ 59) (pm6 : 6 ≤ n5) : sv_M l yX6_takeNumber cX6_takeNumber 1 (some .int) { frames := 2, cells := 0, slots := 0, locals := 41 } g A ty σ [sv_r a] (fun r σ' => (∃ rv : Int, r = [sv_i rv] ∧ (0 ≤ rv ∧ rv ≤ 5)) ∧ sv_inv sp_1 ty σ' ∧ sv_ofx [(3, 5), (3, 12), (7, 3), (7, 4), (7, 5), (8, 3), (8, 4), (8, 5), (8, 6), (8, 7), (8, 10), (8, 11)] [23] ty σ σ' ∧ (σ' a 5 = 0 ∨ σ' a 5 = 5 ∨ 18 ≤ σ' a 5 ∨ σ' cq 2 ≤ 59) ∧ ∃ fz : Nat, σ' a 4 = (fz : Int) + 1 ∧ ty fz = 8) := by
  refine sv_enter (by decide) (Nat.le_of_ble_eq_true rfl) ?_
  intro p e s m args below meth c C hr
  have C : sv_C g A RX6 cX6_takeNumber 1 p s m args meth c := C
  have hr : meth.sig.returnType = (some .int) := hr
  have hF : sv_ofx [(3, 5), (3, 12), (7, 3), (7, 4), (7, 5), (8, 3), (8, 4), (8, 5), (8, 6), (8, 7), (8, 10), (8, 11)] [23] ty σ σ := sv_ofx.rf
  refine sv_same (st2 := []) (lv2 := [(0, sv_r a)]) rfl rfl ?_
  refine sv_go C.1 C.2.1 [(.aload_n 0, 1)] (pc' := 1) (by decide +kernel) rfl (lv' := [(0, sv_r a)]) (st' := [sv_r a]) rfl ?_
  obtain ⟨v1, ev1, hv1⟩ := sv_rdn hI (k := 7) k_a rfl
  refine sv_gf C (index := 48) (ci := 5) (k := 7) (r := (RX6, TX6, 13)) (v := sv_i v1) (by decide +kernel) (by rw [k_a]; rfl) rfl (by decide) fl_X6_48 (congrArg sv_i ev1) ?_
  refine sv_go C.1 C.2.1 [(.iconst 2, 1)] (pc' := 5) (by decide +kernel) rfl (lv' := [(0, sv_r a)]) (st' := [sv_i 2, sv_i v1]) rfl ?_
  refine sv_icmp C.1 C.2.1 (cnd := .eq) (off := 5) (tgt := 10) (by decide +kernel) (by decide) ⟨by omega, by omega⟩ ⟨by omega, by omega⟩ (fun (h2 : v1 = 2) => ?_) (fun (h2 : ¬ (v1 = 2)) => ?_)
  · refine sv_go C.1 C.2.1 [(.aload_n 0, 1)] (pc' := 11) (by decide +kernel) rfl (lv' := [(0, sv_r a)]) (st' := [sv_r a]) rfl ?_
    obtain ⟨v3, ev3, hv3⟩ := sv_rdk hok (a := a) (k := 9) (ci := 5) (r := (RX6, TX6, 13)) (by rw [k_a]; rfl) rfl (by decide) rfl
    refine sv_gf C (index := 86) (ci := 5) (k := 9) (r := (RX6, TX6, 13)) (v := sv_i v3) (by decide +kernel) (by rw [k_a]; rfl) rfl (by decide) fl_X6_86 (congrArg sv_i ev3) ?_
    refine sv_go C.1 C.2.1 [(.aload_n 0, 1)] (pc' := 15) (by decide +kernel) rfl (lv' := [(0, sv_r a)]) (st' := [sv_r a, sv_i v3]) rfl ?_
    refine sv_cv C (index := 190) (k := 0) (rest := [sv_i v3]) (ci := 5) (r := (RX6, TX6, 13)) (by decide +kernel) (sf_X6_leastNumber l g A ty σ hok hTA hI a k_a tq k_tq cq k_cq fq k_fq pR2 pR3 pR4) ⟨co_X6_leastNumber, in_X6, ⟨by decide, by decide, by decide +kernel⟩, Nat.le_of_ble_eq_true rfl, Nat.le_of_ble_eq_true rfl⟩ ml_X6_190 im_X6_leastNumber se_X6_leastNumber (by rw [k_a]; rfl) rfl rfl rfl (Nat.le_of_ble_eq_true rfl) ⟨Nat.zero_le _, Nat.zero_le _⟩ (fun r5 σ6 hpo4 hok7 => ?_)
    obtain ⟨rfl, ⟨vu8, rfl, hvu8⟩⟩ := hpo4
    refine sv_same (st2 := [sv_i vu8, sv_i v3]) (lv2 := [(0, sv_r a)]) rfl rfl ?_
    refine sv_icmp C.1 C.2.1 (cnd := .lt) (off := 14) (tgt := 32) (by decide +kernel) (by decide) ⟨by omega, by omega⟩ ⟨by omega, by omega⟩ (fun (h9 : v3 < vu8) => ?_) (fun (h9 : ¬ (v3 < vu8)) => ?_)
    · refine sv_go C.1 C.2.1 [(.iconst 3, 1)] (pc' := 33) (by decide +kernel) rfl (lv' := [(0, sv_r a)]) (st' := [sv_i 3]) rfl ?_
      exact sv_iret C hr (by decide +kernel) hok7 (⟨⟨_, rfl, ⟨by omega, by omega⟩⟩, hI, hF, by rw [qn5, qn2]; omega, fq, pR4, k_fq⟩)
    · refine sv_go C.1 C.2.1 [(.aload_n 0, 1)] (pc' := 22) (by decide +kernel) rfl (lv' := [(0, sv_r a)]) (st' := [sv_r a]) rfl ?_
      refine sv_gf C (index := 86) (ci := 5) (k := 9) (r := (RX6, TX6, 13)) (v := sv_i v3) (by decide +kernel) (by rw [k_a]; rfl) rfl (by decide) fl_X6_86 (congrArg sv_i ev3) ?_
      refine sv_go C.1 C.2.1 [(.aload_n 0, 1)] (pc' := 26) (by decide +kernel) rfl (lv' := [(0, sv_r a)]) (st' := [sv_r a, sv_i v3]) rfl ?_
      refine sv_cv C (index := 193) (k := 0) (rest := [sv_i v3]) (ci := 5) (r := (RX6, TX6, 13)) (by decide +kernel) (sf_X6_mostNumber l g A ty σ hok7 hTA hI a k_a tq k_tq cq k_cq fq k_fq (n5) ⟨by omega, by omega⟩ pR2 pR3 pR4 qn5) ⟨co_X6_mostNumber, in_X6, ⟨by decide, by decide, by decide +kernel⟩, Nat.le_of_ble_eq_true rfl, Nat.le_of_ble_eq_true rfl⟩ ml_X6_193 im_X6_mostNumber se_X6_mostNumber (by rw [k_a]; rfl) rfl rfl rfl (Nat.le_of_ble_eq_true rfl) ⟨Nat.zero_le _, Nat.zero_le _⟩ (fun r11 σ12 hpo10 hok13 => ?_)
      obtain ⟨rfl, ⟨vu14, rfl, hvu14, ivu14_0⟩⟩ := hpo10
      have hp15 := ivu14_0 (by omega) (by omega)
      refine sv_same (st2 := [sv_i vu14, sv_i v3]) (lv2 := [(0, sv_r a)]) rfl rfl ?_
      refine sv_icmp C.1 C.2.1 (cnd := .le) (off := 5) (tgt := 34) (by decide +kernel) (by decide) ⟨by omega, by omega⟩ ⟨by omega, by omega⟩ (fun (h16 : v3 ≤ vu14) => ?_) (fun (h16 : ¬ (v3 ≤ vu14)) => ?_)
      · refine sv_go C.1 C.2.1 [(.aload_n 0, 1)] (pc' := 35) (by decide +kernel) rfl (lv' := [(0, sv_r a)]) (st' := [sv_r a]) rfl ?_
        refine sv_gf C (index := 36) (ci := 5) (k := 5) (r := (RX6, TX6, 13)) (v := sv_i n5) (by decide +kernel) (by rw [k_a]; rfl) rfl (by decide) fl_X6_36 (congrArg sv_i qn5) ?_
        refine sv_go C.1 C.2.1 [(.bipush 17, 2)] (pc' := 40) (by decide +kernel) rfl (lv' := [(0, sv_r a)]) (st' := [sv_i 17, sv_i n5]) rfl ?_
        refine sv_icmp C.1 C.2.1 (cnd := .gt) (off := 10) (tgt := 50) (by decide +kernel) (by decide) ⟨by omega, by omega⟩ ⟨by omega, by omega⟩ (fun (h17 : 17 < n5) => ?_) (fun (h17 : ¬ (17 < n5)) => ?_)
        · refine sv_go C.1 C.2.1 [(.aload_n 0, 1)] (pc' := 51) (by decide +kernel) rfl (lv' := [(0, sv_r a)]) (st' := [sv_r a]) rfl ?_
          refine sv_cv C (index := 199) (k := 0) (rest := []) (ci := 5) (r := (RX6, TX6, 13)) (by decide +kernel) (sf_X6_keepOtherNumber l g A ty σ hok13 hTA hI a k_a tq k_tq cq k_cq fq k_fq (n5) ⟨by omega, by omega⟩ (n2) ⟨by omega, by omega⟩ pR2 pR3 pR4 qn5 qn2 (by omega) (by omega) (by omega)) ⟨co_X6_keepOtherNumber, in_X6, ⟨by decide, by decide, by decide +kernel⟩, Nat.le_of_ble_eq_true rfl, Nat.le_of_ble_eq_true rfl⟩ ml_X6_199 im_X6_keepOtherNumber se_X6_keepOtherNumber (by rw [k_a]; rfl) rfl rfl rfl (Nat.le_of_ble_eq_true rfl) ⟨Nat.zero_le _, Nat.zero_le _⟩ (fun r19 σ20 hpo18 hok21 => ?_)
          obtain ⟨⟨vu22, rfl, hvu22⟩, hIu22, hFu22, xu22⟩ := hpo18
          have hGu22 := hF.tr hFu22 (by decide) (by decide)
          have t23 : σ20 a 2 = (tq : Int) + 1 := (hFu22.at k_a (by decide) (by decide)).trans pR2
          have t24 : σ20 a 3 = (cq : Int) + 1 := (hFu22.at k_a (by decide) (by decide)).trans pR3
          have t25 : σ20 a 4 = (fq : Int) + 1 := (hFu22.at k_a (by decide) (by decide)).trans pR4
          have t26 : σ20 cq 2 = n2 := (hFu22.at k_cq (by decide) (by decide)).trans qn2
          have t27 : σ20 a 7 = v1 := (hFu22.at k_a (by decide) (by decide)).trans ev1
          have t28 : σ20 a 9 = v3 := (hFu22.at k_a (by decide) (by decide)).trans ev3
          obtain ⟨wu22_5, ewu22_5, hwu22_5⟩ := sv_rdn hIu22 (k := 5) k_a rfl
          rw [ewu22_5] at xu22
          rw [t26] at xu22
          obtain ⟨xu22, fu22, efu22, kfu22⟩ := xu22
          refine sv_same (st2 := [sv_i vu22]) (lv2 := [(0, sv_r a)]) rfl rfl ?_
          exact sv_iret C hr (by decide +kernel) hok21 (⟨⟨_, rfl, ⟨by omega, by omega⟩⟩, hIu22, hGu22, by rw [ewu22_5, t26]; omega, fu22, efu22, kfu22⟩)
        · refine sv_go C.1 C.2.1 [(.aload_n 0, 1)] (pc' := 44) (by decide +kernel) rfl (lv' := [(0, sv_r a)]) (st' := [sv_r a]) rfl ?_
          refine sv_cv C (index := 196) (k := 0) (rest := []) (ci := 5) (r := (RX6, TX6, 13)) (by decide +kernel) (sf_X6_keepFeastNumber l g A ty σ hok13 hTA hI a k_a tq k_tq cq k_cq fq k_fq (n5) ⟨by omega, by omega⟩ (n2) ⟨by omega, by omega⟩ pR2 pR3 pR4 qn5 qn2 (by omega) (by omega)) ⟨co_X6_keepFeastNumber, in_X6, ⟨by decide, by decide, by decide +kernel⟩, Nat.le_of_ble_eq_true rfl, Nat.le_of_ble_eq_true rfl⟩ ml_X6_196 im_X6_keepFeastNumber se_X6_keepFeastNumber (by rw [k_a]; rfl) rfl rfl rfl (Nat.le_of_ble_eq_true rfl) ⟨Nat.zero_le _, Nat.zero_le _⟩ (fun r30 σ31 hpo29 hok32 => ?_)
          obtain ⟨⟨vu33, rfl, hvu33⟩, hIu33, hFu33, xu33⟩ := hpo29
          have hGu33 := hF.tr hFu33 (by decide) (by decide)
          have t34 : σ31 a 2 = (tq : Int) + 1 := (hFu33.at k_a (by decide) (by decide)).trans pR2
          have t35 : σ31 a 3 = (cq : Int) + 1 := (hFu33.at k_a (by decide) (by decide)).trans pR3
          have t36 : σ31 a 4 = (fq : Int) + 1 := (hFu33.at k_a (by decide) (by decide)).trans pR4
          have t37 : σ31 cq 2 = n2 := (hFu33.at k_cq (by decide) (by decide)).trans qn2
          have t38 : σ31 a 7 = v1 := (hFu33.at k_a (by decide) (by decide)).trans ev1
          have t39 : σ31 a 9 = v3 := (hFu33.at k_a (by decide) (by decide)).trans ev3
          obtain ⟨wu33_5, ewu33_5, hwu33_5⟩ := sv_rdn hIu33 (k := 5) k_a rfl
          rw [ewu33_5] at xu33
          rw [t37] at xu33
          obtain ⟨xu33, fu33, efu33, kfu33⟩ := xu33
          refine sv_same (st2 := [sv_i vu33]) (lv2 := [(0, sv_r a)]) rfl rfl ?_
          refine sv_goto C.1 C.2.1 (off := 7) (tgt := 54) (by decide +kernel) (by decide) ?_
          exact sv_iret C hr (by decide +kernel) hok32 (⟨⟨_, rfl, ⟨by omega, by omega⟩⟩, hIu33, hGu33, by rw [ewu33_5, t37]; omega, fu33, efu33, kfu33⟩)
      · refine sv_go C.1 C.2.1 [(.iconst 3, 1)] (pc' := 33) (by decide +kernel) rfl (lv' := [(0, sv_r a)]) (st' := [sv_i 3]) rfl ?_
        exact sv_iret C hr (by decide +kernel) hok13 (⟨⟨_, rfl, ⟨by omega, by omega⟩⟩, hI, hF, by rw [qn5, qn2]; omega, fq, pR4, k_fq⟩)
  · refine sv_go C.1 C.2.1 [(.iconst 1, 1)] (pc' := 9) (by decide +kernel) rfl (lv' := [(0, sv_r a)]) (st' := [sv_i 1]) rfl ?_
    exact sv_iret C hr (by decide +kernel) hok (⟨⟨_, rfl, ⟨by omega, by omega⟩⟩, hI, hF, by rw [qn5, qn2]; omega, fq, pR4, k_fq⟩)

theorem ml_X6_145 : Cond.methodLink RX6 145 yX6_takeNumber ∈ lw_good := sv_mem 572 (by decide +kernel) rfl
theorem co_X6_takeNumber : Cond.code yX6_takeNumber cX6_takeNumber 1 (some .int) ∈ lw_good := sv_mem 575 (by decide +kernel) rfl
theorem im_X6_takeNumber : Cond.instanceMethod yX6_takeNumber ∈ lw_good := sv_mem 574 (by decide +kernel) rfl
theorem se_X6_takeNumber : Cond.selects RX6 yX6_takeNumber yX6_takeNumber ∈ lw_good := sv_mem 10 (by decide +kernel) rfl
set_option maxHeartbeats 4000000 in
set_option maxRecDepth 100000 in
theorem sf_X6_takeMinusOrShift (l : Launch) (g : sv_G) (A : Nat → Prop) (ty : Nat → Nat) (σ : Nat → Nat → Int) (hok : sv_ok ty σ) (hTA : ∀ q, ty q ≠ 0 → A q) (hI : sv_inv sp_1 ty σ) (a : Nat) (k_a : ty a = 3) (tq : Nat) (k_tq : ty tq = 2) (cq : Nat) (k_cq : ty cq = 7) (fq : Nat) (k_fq : ty fq = 8) (n5 : Int) (h_n5 : 0 ≤ n5 ∧ n5 ≤ 22) (n2 : Int) (h_n2 : 0 ≤ n2 ∧ n2 ≤ 60) (pR2 : σ a 2 = (tq : Int) + 1) (pR3 : σ a 3 = (cq : Int) + 1) (pR4 : σ a 4 = (fq : Int) + 1) (qn5 : σ a 5 = n5) (qn2 : σ cq 2 = n2) (hJ : n5 = 0 ∨ n5 = 5 ∨ 18 ≤ n5 ∨ n2 ≤ 59) (hm59 : n2 ≤ 59) : sv_M l yX6_takeMinusOrShift cX6_takeMinusOrShift 1 (some .int) { frames := 3, cells := 0, slots := 0, locals := 61 } g A ty σ [sv_r a] (fun r σ' => (∃ rv : Int, r = [sv_i rv] ∧ (0 ≤ rv ∧ rv ≤ 5)) ∧ sv_inv sp_1 ty σ' ∧ sv_ofx [(3, 5), (3, 10), (3, 12), (7, 3), (7, 4), (7, 5), (8, 3), (8, 4), (8, 5), (8, 6), (8, 7), (8, 10), (8, 11)] [23] ty σ σ' ∧ (σ' a 5 = 0 ∨ σ' a 5 = 5 ∨ 18 ≤ σ' a 5 ∨ σ' cq 2 ≤ 59) ∧ ∃ fz : Nat, σ' a 4 = (fz : Int) + 1 ∧ ty fz = 8) := by
  refine sv_enter (by decide) (Nat.le_of_ble_eq_true rfl) ?_
  intro p e s m args below meth c C hr
  have C : sv_C g A RX6 cX6_takeMinusOrShift 1 p s m args meth c := C
  have hr : meth.sig.returnType = (some .int) := hr
  have hF : sv_ofx [(3, 5), (3, 10), (3, 12), (7, 3), (7, 4), (7, 5), (8, 3), (8, 4), (8, 5), (8, 6), (8, 7), (8, 10), (8, 11)] [23] ty σ σ := sv_ofx.rf
  refine sv_same (st2 := []) (lv2 := [(0, sv_r a)]) rfl rfl ?_
  refine sv_go C.1 C.2.1 [(.aload_n 0, 1), (.bipush 12, 2)] (pc' := 3) (by decide +kernel) rfl (lv' := [(0, sv_r a)]) (st' := [sv_i 12, sv_r a]) rfl ?_
  refine sv_pf C (index := 36) (ci := 5) (k := 5) (r := (RX6, TX6, 13)) (z := 12) (by decide +kernel) (by rw [k_a]; rfl) rfl (by decide) rfl fl_X6_36 rfl (Or.inl rfl) ⟨by omega, by omega⟩ (hTA _ (by rw [k_a]; decide)) hok (fun hok1 => ?_)
  have hI3 := hI.up (a := a) (k := 5) (z := 12) (by rw [k_a]; exact ⟨by omega, by omega⟩)
  have hF4 := hF.up (a := a) (k := 5) (z := 12) (Or.inr (by rw [k_a]; decide))
  generalize eσ2 : sv_up σ a 5 12 = σ2 at hok1 hI3 hF4 ⊢
  have t5 : σ2 a 2 = (tq : Int) + 1 := by rw [← eσ2, sv_up_k (by decide)]; exact pR2
  have t6 : σ2 a 3 = (cq : Int) + 1 := by rw [← eσ2, sv_up_k (by decide)]; exact pR3
  have t7 : σ2 a 4 = (fq : Int) + 1 := by rw [← eσ2, sv_up_k (by decide)]; exact pR4
  have t8 : σ2 cq 2 = n2 := by rw [← eσ2, sv_up_a (sv_ne k_cq k_a (by decide))]; exact qn2
  have t9 : σ2 a 5 = 12 := by rw [← eσ2]; exact sv_up_s _ _ _ _
  refine sv_go C.1 C.2.1 [(.aload_n 0, 1), (.aload_n 0, 1)] (pc' := 8) (by decide +kernel) rfl (lv' := [(0, sv_r a)]) (st' := [sv_r a, sv_r a]) rfl ?_
  obtain ⟨v10, ev10, hv10⟩ := sv_rdn hI3 (k := 7) k_a rfl
  refine sv_gf C (index := 48) (ci := 5) (k := 7) (r := (RX6, TX6, 13)) (v := sv_i v10) (by decide +kernel) (by rw [k_a]; rfl) rfl (by decide) fl_X6_48 (congrArg sv_i ev10) ?_
  refine sv_go C.1 C.2.1 [(.iconst 3, 1)] (pc' := 12) (by decide +kernel) rfl (lv' := [(0, sv_r a)]) (st' := [sv_i 3, sv_i v10, sv_r a]) rfl ?_
  have J13 : ∀ (Jg12_s0 : Int), (0 ≤ Jg12_s0 ∧ Jg12_s0 ≤ 1) → sv_E p l e { frames := 3, cells := 0, slots := 0, locals := 61 } s m args below meth c 1 g A ty (fun r σ' => (∃ rv : Int, r = [sv_i rv] ∧ (0 ≤ rv ∧ rv ≤ 5)) ∧ sv_inv sp_1 ty σ' ∧ sv_ofx [(3, 5), (3, 10), (3, 12), (7, 3), (7, 4), (7, 5), (8, 3), (8, 4), (8, 5), (8, 6), (8, 7), (8, 10), (8, 11)] [23] ty σ σ' ∧ (σ' a 5 = 0 ∨ σ' a 5 = 5 ∨ 18 ≤ σ' a 5 ∨ σ' cq 2 ≤ 59) ∧ ∃ fz : Nat, σ' a 4 = (fz : Int) + 1 ∧ ty fz = 8) σ2 20 [(0, sv_r a)] [sv_i Jg12_s0, sv_r a] := by
    intro Jg12_s0 hJg12_s0
    refine sv_pf C (index := 170) (ci := 5) (k := 10) (r := (RX6, TX6, 13)) (z := Jg12_s0) (by decide +kernel) (by rw [k_a]; rfl) rfl (by decide) rfl fl_X6_170 rfl (Or.inr (Or.inl rfl)) ⟨by omega, by omega⟩ (hTA _ (by rw [k_a]; decide)) hok1 (fun hok14 => ?_)
    have hI16 := hI3.up (a := a) (k := 10) (z := Jg12_s0) (by rw [k_a]; exact trivial)
    have hF17 := hF4.up (a := a) (k := 10) (z := Jg12_s0) (Or.inr (by rw [k_a]; decide))
    generalize eσ15 : sv_up σ2 a 10 Jg12_s0 = σ15 at hok14 hI16 hF17 ⊢
    have t18 : σ15 a 2 = (tq : Int) + 1 := by rw [← eσ15, sv_up_k (by decide)]; exact t5
    have t19 : σ15 a 3 = (cq : Int) + 1 := by rw [← eσ15, sv_up_k (by decide)]; exact t6
    have t20 : σ15 a 4 = (fq : Int) + 1 := by rw [← eσ15, sv_up_k (by decide)]; exact t7
    have t21 : σ15 cq 2 = n2 := by rw [← eσ15, sv_up_a (sv_ne k_cq k_a (by decide))]; exact t8
    have t22 : σ15 a 5 = 12 := by rw [← eσ15, sv_up_k (by decide)]; exact t9
    have t23 : σ15 a 7 = v10 := by rw [← eσ15, sv_up_k (by decide)]; exact ev10
    have t24 : σ15 a 10 = Jg12_s0 := by rw [← eσ15]; exact sv_up_s _ _ _ _
    refine sv_go C.1 C.2.1 [(.aload_n 0, 1)] (pc' := 24) (by decide +kernel) rfl (lv' := [(0, sv_r a)]) (st' := [sv_r a]) rfl ?_
    refine sv_gf C (index := 170) (ci := 5) (k := 10) (r := (RX6, TX6, 13)) (v := sv_i Jg12_s0) (by decide +kernel) (by rw [k_a]; rfl) rfl (by decide) fl_X6_170 (congrArg sv_i t24) ?_
    refine sv_if C.1 C.2.1 (cnd := .eq) (off := 7) (tgt := 34) (by decide +kernel) (by decide) ⟨by omega, by omega⟩ (fun (h25 : Jg12_s0 = 0) => ?_) (fun (h25 : ¬ (Jg12_s0 = 0)) => ?_)
    · refine sv_go C.1 C.2.1 [(.aload_n 0, 1)] (pc' := 35) (by decide +kernel) rfl (lv' := [(0, sv_r a)]) (st' := [sv_r a]) rfl ?_
      refine sv_cv C (index := 145) (k := 0) (rest := []) (ci := 5) (r := (RX6, TX6, 13)) (by decide +kernel) (sf_X6_takeNumber l g A ty σ15 hok14 hTA hI16 a k_a tq k_tq cq k_cq fq k_fq (12) ⟨by omega, by omega⟩ (n2) ⟨by omega, by omega⟩ t18 t19 t20 t22 t21 (by omega) (by omega)) ⟨co_X6_takeNumber, in_X6, ⟨by decide, by decide, by decide +kernel⟩, Nat.le_of_ble_eq_true rfl, Nat.le_of_ble_eq_true rfl⟩ ml_X6_145 im_X6_takeNumber se_X6_takeNumber (by rw [k_a]; rfl) rfl rfl rfl (Nat.le_of_ble_eq_true rfl) ⟨Nat.zero_le _, Nat.zero_le _⟩ (fun r27 σ28 hpo26 hok29 => ?_)
      obtain ⟨⟨vu30, rfl, hvu30⟩, hIu30, hFu30, xu30⟩ := hpo26
      have hGu30 := hF17.tr hFu30 (by decide) (by decide)
      have t31 : σ28 a 2 = (tq : Int) + 1 := (hFu30.at k_a (by decide) (by decide)).trans t18
      have t32 : σ28 a 3 = (cq : Int) + 1 := (hFu30.at k_a (by decide) (by decide)).trans t19
      have t33 : σ28 a 4 = (fq : Int) + 1 := (hFu30.at k_a (by decide) (by decide)).trans t20
      have t34 : σ28 cq 2 = n2 := (hFu30.at k_cq (by decide) (by decide)).trans t21
      have t35 : σ28 a 7 = v10 := (hFu30.at k_a (by decide) (by decide)).trans t23
      have t36 : σ28 a 10 = Jg12_s0 := (hFu30.at k_a (by decide) (by decide)).trans t24
      obtain ⟨wu30_5, ewu30_5, hwu30_5⟩ := sv_rdn hIu30 (k := 5) k_a rfl
      rw [ewu30_5] at xu30
      rw [t34] at xu30
      obtain ⟨xu30, fu30, efu30, kfu30⟩ := xu30
      refine sv_same (st2 := [sv_i vu30]) (lv2 := [(0, sv_r a)]) rfl rfl ?_
      exact sv_iret C hr (by decide +kernel) hok29 (⟨⟨_, rfl, ⟨by omega, by omega⟩⟩, hIu30, hGu30, by rw [ewu30_5, t34]; omega, fu30, efu30, kfu30⟩)
    · refine sv_go C.1 C.2.1 [(.iconst 0, 1)] (pc' := 31) (by decide +kernel) rfl (lv' := [(0, sv_r a)]) (st' := [sv_i 0]) rfl ?_
      refine sv_goto C.1 C.2.1 (off := 7) (tgt := 38) (by decide +kernel) (by decide) ?_
      exact sv_iret C hr (by decide +kernel) hok14 (⟨⟨_, rfl, ⟨by omega, by omega⟩⟩, hI16, hF17, by rw [t22, t21]; omega, fq, t20, k_fq⟩)
  refine sv_icmp C.1 C.2.1 (cnd := .ne) (off := 7) (tgt := 19) (by decide +kernel) (by decide) ⟨by omega, by omega⟩ ⟨by omega, by omega⟩ (fun (h11 : v10 ≠ 3) => ?_) (fun (h11 : ¬ (v10 ≠ 3)) => ?_)
  · refine sv_go C.1 C.2.1 [(.iconst 0, 1)] (pc' := 20) (by decide +kernel) rfl (lv' := [(0, sv_r a)]) (st' := [sv_i 0, sv_r a]) rfl ?_
    exact J13 0 ⟨by omega, by omega⟩
  · refine sv_go C.1 C.2.1 [(.iconst 1, 1)] (pc' := 16) (by decide +kernel) rfl (lv' := [(0, sv_r a)]) (st' := [sv_i 1, sv_r a]) rfl ?_
    refine sv_goto C.1 C.2.1 (off := 4) (tgt := 20) (by decide +kernel) (by decide) ?_
    exact J13 1 ⟨by omega, by omega⟩

theorem ml_X6_174 : Cond.methodLink RX6 174 yX3_setName ∈ lw_good := sv_mem 605 (by decide +kernel) rfl
theorem co_X3_setName : Cond.code yX3_setName cX3_setName 5 none ∈ lw_good := sv_mem 608 (by decide +kernel) rfl
theorem im_X3_setName : Cond.instanceMethod yX3_setName ∈ lw_good := sv_mem 606 (by decide +kernel) rfl
theorem se_X3_setName : Cond.selects RX3 yX3_setName yX3_setName ∈ lw_good := sv_mem 607 (by decide +kernel) rfl
theorem fl_X6_178 : Cond.fieldLink RX6 178 "SaintsRoad$Feast" "name" "J" ∈ lw_good := sv_mem 187 (by decide +kernel) rfl
theorem ml_X6_182 : Cond.methodLink RX6 182 yX1_hasName ∈ lw_good := sv_mem 610 (by decide +kernel) rfl
theorem co_X1_hasName : Cond.code yX1_hasName cX1_hasName 4 (some .boolean) ∈ lw_good := sv_mem 613 (by decide +kernel) rfl
theorem im_X1_hasName : Cond.instanceMethod yX1_hasName ∈ lw_good := sv_mem 611 (by decide +kernel) rfl
theorem se_X1_hasName : Cond.selects RX1 yX1_hasName yX1_hasName ∈ lw_good := sv_mem 612 (by decide +kernel) rfl
set_option maxHeartbeats 4000000 in
set_option maxRecDepth 100000 in
theorem sf_X6_takeName (l : Launch) (g : sv_G) (A : Nat → Prop) (ty : Nat → Nat) (σ : Nat → Nat → Int) (hok : sv_ok ty σ) (hTA : ∀ q, ty q ≠ 0 → A q) (hI : sv_inv sp_1 ty σ) (a : Nat) (k_a : ty a = 3) (tq : Nat) (k_tq : ty tq = 2) (cq : Nat) (k_cq : ty cq = 7) (fq : Nat) (k_fq : ty fq = 8) (n5 : Int) (h_n5 : 0 ≤ n5 ∧ n5 ≤ 22) (n2 : Int) (h_n2 : 0 ≤ n2 ∧ n2 ≤ 60) (pR2 : σ a 2 = (tq : Int) + 1) (pR3 : σ a 3 = (cq : Int) + 1) (pR4 : σ a 4 = (fq : Int) + 1) (qn5 : σ a 5 = n5) (qn2 : σ cq 2 = n2) (hJ : n5 = 0 ∨ n5 = 5 ∨ 18 ≤ n5 ∨ n2 ≤ 59) (hm59 : n2 ≤ 59) : sv_M l yX6_takeName cX6_takeName 1 (some .int) { frames := 2, cells := 0, slots := 0, locals := 45 } g A ty σ [sv_r a] (fun r σ' => (∃ rv : Int, r = [sv_i rv] ∧ (0 ≤ rv ∧ rv ≤ 2)) ∧ sv_inv sp_1 ty σ' ∧ sv_ofx [(3, 5), (8, 0), (8, 1)] [] ty σ σ' ∧ (σ' a 5 = 0 ∨ σ' a 5 = 5 ∨ 18 ≤ σ' a 5 ∨ σ' cq 2 ≤ 59) ∧ ∃ fz : Nat, σ' a 4 = (fz : Int) + 1 ∧ ty fz = 8) := by
  refine sv_enter (by decide) (Nat.le_of_ble_eq_true rfl) ?_
  intro p e s m args below meth c C hr
  have C : sv_C g A RX6 cX6_takeName 1 p s m args meth c := C
  have hr : meth.sig.returnType = (some .int) := hr
  have hF : sv_ofx [(3, 5), (8, 0), (8, 1)] [] ty σ σ := sv_ofx.rf
  refine sv_same (st2 := []) (lv2 := [(0, sv_r a)]) rfl rfl ?_
  refine sv_go C.1 C.2.1 [(.aload_n 0, 1)] (pc' := 1) (by decide +kernel) rfl (lv' := [(0, sv_r a)]) (st' := [sv_r a]) rfl ?_
  obtain ⟨v1, ev1, hv1⟩ := sv_rdn hI (k := 7) k_a rfl
  refine sv_gf C (index := 48) (ci := 5) (k := 7) (r := (RX6, TX6, 13)) (v := sv_i v1) (by decide +kernel) (by rw [k_a]; rfl) rfl (by decide) fl_X6_48 (congrArg sv_i ev1) ?_
  refine sv_go C.1 C.2.1 [(.iconst 5, 1)] (pc' := 5) (by decide +kernel) rfl (lv' := [(0, sv_r a)]) (st' := [sv_i 5, sv_i v1]) rfl ?_
  refine sv_icmp C.1 C.2.1 (cnd := .eq) (off := 5) (tgt := 10) (by decide +kernel) (by decide) ⟨by omega, by omega⟩ ⟨by omega, by omega⟩ (fun (h2 : v1 = 5) => ?_) (fun (h2 : ¬ (v1 = 5)) => ?_)
  · refine sv_go C.1 C.2.1 [(.aload_n 0, 1)] (pc' := 11) (by decide +kernel) rfl (lv' := [(0, sv_r a)]) (st' := [sv_r a]) rfl ?_
    refine sv_gf C (index := 32) (ci := 5) (k := 4) (r := (RX6, TX6, 13)) (v := sv_r fq) (by decide +kernel) (by rw [k_a]; rfl) rfl (by decide) fl_X6_32 (congrArg sv_a pR4) ?_
    refine sv_go C.1 C.2.1 [(.aload_n 0, 1)] (pc' := 15) (by decide +kernel) rfl (lv' := [(0, sv_r a)]) (st' := [sv_r a, sv_r fq]) rfl ?_
    refine sv_gf C (index := 15) (ci := 5) (k := 2) (r := (RX6, TX6, 13)) (v := sv_r tq) (by decide +kernel) (by rw [k_a]; rfl) rfl (by decide) fl_X6_15 (congrArg sv_a pR2) ?_
    refine sv_go C.1 C.2.1 [(.aload_n 0, 1)] (pc' := 19) (by decide +kernel) rfl (lv' := [(0, sv_r a)]) (st' := [sv_r a, sv_r tq, sv_r fq]) rfl ?_
    obtain ⟨v3, ev3, hv3⟩ := sv_rdn hI (k := 8) k_a rfl
    refine sv_gf C (index := 55) (ci := 5) (k := 8) (r := (RX6, TX6, 13)) (v := sv_i v3) (by decide +kernel) (by rw [k_a]; rfl) rfl (by decide) fl_X6_55 (congrArg sv_i ev3) ?_
    refine sv_go C.1 C.2.1 [(.aload_n 0, 1)] (pc' := 23) (by decide +kernel) rfl (lv' := [(0, sv_r a)]) (st' := [sv_r a, sv_i v3, sv_r tq, sv_r fq]) rfl ?_
    obtain ⟨v4, ev4, hv4⟩ := sv_rdn hI (k := 6) k_a rfl
    refine sv_gf C (index := 39) (ci := 5) (k := 6) (r := (RX6, TX6, 13)) (v := sv_i v4) (by decide +kernel) (by rw [k_a]; rfl) rfl (by decide) fl_X6_39 (congrArg sv_i ev4) ?_
    refine sv_go C.1 C.2.1 [(.aload_n 0, 1)] (pc' := 27) (by decide +kernel) rfl (lv' := [(0, sv_r a)]) (st' := [sv_r a, sv_i v4, sv_i v3, sv_r tq, sv_r fq]) rfl ?_
    refine sv_gf C (index := 55) (ci := 5) (k := 8) (r := (RX6, TX6, 13)) (v := sv_i v3) (by decide +kernel) (by rw [k_a]; rfl) rfl (by decide) fl_X6_55 (congrArg sv_i ev3) ?_
    refine sv_go C.1 C.2.1 [(.isub, 1)] (pc' := 31) (by decide +kernel) rfl (lv' := [(0, sv_r a)]) (st' := [sv_i (v4 - v3), sv_i v3, sv_r tq, sv_r fq]) rfl ?_
    refine sv_cv C (index := 174) (k := 3) (rest := []) (ci := 2) (r := (RX3, TX3, 12)) (by decide +kernel) (sf_X3_setName l g A ty σ hok hTA hI fq k_fq tq k_tq (v3) ⟨by omega, by omega⟩ (v4 - v3) ⟨by omega, by omega⟩) ⟨co_X3_setName, in_X3, ⟨by decide, by decide, by decide +kernel⟩, Nat.le_of_ble_eq_true rfl, Nat.le_of_ble_eq_true rfl⟩ ml_X6_174 im_X3_setName se_X3_setName (by rw [k_fq]; rfl) rfl rfl rfl (Nat.le_of_ble_eq_true rfl) ⟨Nat.zero_le _, Nat.zero_le _⟩ (fun r6 σ7 hpo5 hok8 => ?_)
    obtain ⟨rfl, hIu9, hFu9⟩ := hpo5
    have hGu9 := hF.tr hFu9 (by decide) (by decide)
    have t10 : σ7 a 2 = (tq : Int) + 1 := (hFu9.at k_a (by decide) (by decide)).trans pR2
    have t11 : σ7 a 3 = (cq : Int) + 1 := (hFu9.at k_a (by decide) (by decide)).trans pR3
    have t12 : σ7 a 4 = (fq : Int) + 1 := (hFu9.at k_a (by decide) (by decide)).trans pR4
    have t13 : σ7 a 5 = n5 := (hFu9.at k_a (by decide) (by decide)).trans qn5
    have t14 : σ7 cq 2 = n2 := (hFu9.at k_cq (by decide) (by decide)).trans qn2
    have t15 : σ7 a 7 = v1 := (hFu9.at k_a (by decide) (by decide)).trans ev1
    have t16 : σ7 a 8 = v3 := (hFu9.at k_a (by decide) (by decide)).trans ev3
    have t17 : σ7 a 6 = v4 := (hFu9.at k_a (by decide) (by decide)).trans ev4
    refine sv_same (st2 := []) (lv2 := [(0, sv_r a)]) rfl rfl ?_
    refine sv_go C.1 C.2.1 [(.aload_n 0, 1)] (pc' := 35) (by decide +kernel) rfl (lv' := [(0, sv_r a)]) (st' := [sv_r a]) rfl ?_
    refine sv_gf C (index := 19) (ci := 5) (k := 3) (r := (RX6, TX6, 13)) (v := sv_r cq) (by decide +kernel) (by rw [k_a]; rfl) rfl (by decide) fl_X6_19 (congrArg sv_a t11) ?_
    refine sv_go C.1 C.2.1 [(.aload_n 0, 1)] (pc' := 39) (by decide +kernel) rfl (lv' := [(0, sv_r a)]) (st' := [sv_r a, sv_r cq]) rfl ?_
    refine sv_gf C (index := 32) (ci := 5) (k := 4) (r := (RX6, TX6, 13)) (v := sv_r fq) (by decide +kernel) (by rw [k_a]; rfl) rfl (by decide) fl_X6_32 (congrArg sv_a t12) ?_
    obtain ⟨v18, ev18, hv18⟩ := sv_rdl hok8 (a := fq) (k := 0) (ci := 2) (r := (RX3, TX3, 12)) (by rw [k_fq]; rfl) rfl (by decide) rfl
    refine sv_gf C (index := 178) (ci := 2) (k := 0) (r := (RX3, TX3, 12)) (v := sv_l v18) (by decide +kernel) (by rw [k_fq]; rfl) rfl (by decide) fl_X6_178 (congrArg sv_l ev18) ?_
    refine sv_cv C (index := 182) (k := 1) (rest := []) (ci := 1) (r := (RX1, TX1, 6)) (by decide +kernel) (sf_X1_hasName l g A ty σ7 hok8 hTA hIu9 cq k_cq (v18) ⟨by omega, by omega⟩) ⟨co_X1_hasName, in_X1, ⟨by decide, by decide, by decide +kernel⟩, Nat.le_of_ble_eq_true rfl, Nat.le_of_ble_eq_true rfl⟩ ml_X6_182 im_X1_hasName se_X1_hasName (by rw [k_cq]; rfl) rfl rfl rfl (Nat.le_of_ble_eq_true rfl) ⟨Nat.zero_le _, Nat.zero_le _⟩ (fun r20 σ21 hpo19 hok22 => ?_)
    obtain ⟨rfl, ⟨vu23, rfl, hvu23⟩⟩ := hpo19
    refine sv_same (st2 := [sv_i vu23]) (lv2 := [(0, sv_r a)]) rfl rfl ?_
    refine sv_if C.1 C.2.1 (cnd := .eq) (off := 5) (tgt := 53) (by decide +kernel) (by decide) ⟨by omega, by omega⟩ (fun (h24 : vu23 = 0) => ?_) (fun (h24 : ¬ (vu23 = 0)) => ?_)
    · refine sv_go C.1 C.2.1 [(.aload_n 0, 1), (.iconst 4, 1)] (pc' := 55) (by decide +kernel) rfl (lv' := [(0, sv_r a)]) (st' := [sv_i 4, sv_r a]) rfl ?_
      refine sv_cv C (index := 148) (k := 1) (rest := []) (ci := 5) (r := (RX6, TX6, 13)) (by decide +kernel) (sf_X6_goTo l g A ty σ7 hok22 hTA hIu9 a k_a tq k_tq cq k_cq fq k_fq (4) ⟨by omega, by omega⟩ t10 t11 t12) ⟨co_X6_goTo, in_X6, ⟨by decide, by decide, by decide +kernel⟩, Nat.le_of_ble_eq_true rfl, Nat.le_of_ble_eq_true rfl⟩ ml_X6_148 im_X6_goTo se_X6_goTo (by rw [k_a]; rfl) rfl rfl rfl (Nat.le_of_ble_eq_true rfl) ⟨Nat.zero_le _, Nat.zero_le _⟩ (fun r26 σ27 hpo25 hok28 => ?_)
      obtain ⟨⟨vu29, rfl, hvu29⟩, hIu29, hFu29, xu29⟩ := hpo25
      have hGu29 := hGu9.tr hFu29 (by decide) (by decide)
      have t30 : σ27 a 2 = (tq : Int) + 1 := (hFu29.at k_a (by decide) (by decide)).trans t10
      have t31 : σ27 a 3 = (cq : Int) + 1 := (hFu29.at k_a (by decide) (by decide)).trans t11
      have t32 : σ27 a 4 = (fq : Int) + 1 := (hFu29.at k_a (by decide) (by decide)).trans t12
      have t33 : σ27 cq 2 = n2 := (hFu29.at k_cq (by decide) (by decide)).trans t14
      have t34 : σ27 a 7 = v1 := (hFu29.at k_a (by decide) (by decide)).trans t15
      have t35 : σ27 a 8 = v3 := (hFu29.at k_a (by decide) (by decide)).trans t16
      have t36 : σ27 a 6 = v4 := (hFu29.at k_a (by decide) (by decide)).trans t17
      have t37 : σ27 fq 0 = v18 := (hFu29.at k_fq (by decide) (by decide)).trans ev18
      refine sv_same (st2 := [sv_i vu29]) (lv2 := [(0, sv_r a)]) rfl rfl ?_
      exact sv_iret C hr (by decide +kernel) hok28 (⟨⟨_, rfl, ⟨by omega, by omega⟩⟩, hIu29, hGu29, by rw [xu29, t33]; omega, fq, t32, k_fq⟩)
    · refine sv_go C.1 C.2.1 [(.iconst 2, 1)] (pc' := 52) (by decide +kernel) rfl (lv' := [(0, sv_r a)]) (st' := [sv_i 2]) rfl ?_
      exact sv_iret C hr (by decide +kernel) hok22 (⟨⟨_, rfl, ⟨by omega, by omega⟩⟩, hIu9, hGu9, by rw [t13, t14]; omega, fq, t12, k_fq⟩)
  · refine sv_go C.1 C.2.1 [(.iconst 1, 1)] (pc' := 9) (by decide +kernel) rfl (lv' := [(0, sv_r a)]) (st' := [sv_i 1]) rfl ?_
    exact sv_iret C hr (by decide +kernel) hok (⟨⟨_, rfl, ⟨by omega, by omega⟩⟩, hI, hF, by rw [qn5, qn2]; omega, fq, pR4, k_fq⟩)

theorem fl_X6_186 : Cond.fieldLink RX6 186 "SaintsRoad$Feast" "vigil" "Z" ∈ lw_good := sv_mem 205 (by decide +kernel) rfl
theorem fl_X6_188 : Cond.fieldLink RX6 188 "SaintsRoad$Feast" "octave" "Z" ∈ lw_good := sv_mem 208 (by decide +kernel) rfl
set_option maxHeartbeats 4000000 in
set_option maxRecDepth 100000 in
theorem sf_X6_takeMark (l : Launch) (g : sv_G) (A : Nat → Prop) (ty : Nat → Nat) (σ : Nat → Nat → Int) (hok : sv_ok ty σ) (hTA : ∀ q, ty q ≠ 0 → A q) (hI : sv_inv sp_1 ty σ) (a : Nat) (k_a : ty a = 3) (tq : Nat) (k_tq : ty tq = 2) (cq : Nat) (k_cq : ty cq = 7) (fq : Nat) (k_fq : ty fq = 8) (n5 : Int) (h_n5 : 0 ≤ n5 ∧ n5 ≤ 22) (n2 : Int) (h_n2 : 0 ≤ n2 ∧ n2 ≤ 60) (pR2 : σ a 2 = (tq : Int) + 1) (pR3 : σ a 3 = (cq : Int) + 1) (pR4 : σ a 4 = (fq : Int) + 1) (qn5 : σ a 5 = n5) (qn2 : σ cq 2 = n2) (hJ : n5 = 0 ∨ n5 = 5 ∨ 18 ≤ n5 ∨ n2 ≤ 59) (hm59 : n2 ≤ 59) : sv_M l yX6_takeMark cX6_takeMark 2 (some .int) { frames := 1, cells := 0, slots := 0, locals := 21 } g A ty σ [sv_r a] (fun r σ' => (∃ rv : Int, r = [sv_i rv] ∧ (0 ≤ rv ∧ rv ≤ 5)) ∧ sv_inv sp_1 ty σ' ∧ sv_ofx [(3, 5), (3, 11), (7, 2), (8, 8), (8, 9)] [] ty σ σ' ∧ (σ' a 5 = 0 ∨ σ' a 5 = 5 ∨ 18 ≤ σ' a 5 ∨ σ' cq 2 ≤ 59) ∧ ∃ fz : Nat, σ' a 4 = (fz : Int) + 1 ∧ ty fz = 8) := by
  refine sv_enter (by decide) (Nat.le_of_ble_eq_true rfl) ?_
  intro p e s m args below meth c C hr
  have C : sv_C g A RX6 cX6_takeMark 2 p s m args meth c := C
  have hr : meth.sig.returnType = (some .int) := hr
  have hF : sv_ofx [(3, 5), (3, 11), (7, 2), (8, 8), (8, 9)] [] ty σ σ := sv_ofx.rf
  refine sv_same (st2 := []) (lv2 := [(0, sv_r a)]) rfl rfl ?_
  refine sv_go C.1 C.2.1 [(.aload_n 0, 1)] (pc' := 1) (by decide +kernel) rfl (lv' := [(0, sv_r a)]) (st' := [sv_r a]) rfl ?_
  obtain ⟨v1, ev1, hv1⟩ := sv_rdn hI (k := 7) k_a rfl
  refine sv_gf C (index := 48) (ci := 5) (k := 7) (r := (RX6, TX6, 13)) (v := sv_i v1) (by decide +kernel) (by rw [k_a]; rfl) rfl (by decide) fl_X6_48 (congrArg sv_i ev1) ?_
  refine sv_go C.1 C.2.1 [(.iconst 4, 1)] (pc' := 5) (by decide +kernel) rfl (lv' := [(0, sv_r a)]) (st' := [sv_i 4, sv_i v1]) rfl ?_
  refine sv_icmp C.1 C.2.1 (cnd := .ne) (off := 22) (tgt := 27) (by decide +kernel) (by decide) ⟨by omega, by omega⟩ ⟨by omega, by omega⟩ (fun (h2 : v1 ≠ 4) => ?_) (fun (h2 : ¬ (v1 ≠ 4)) => ?_)
  · refine sv_go C.1 C.2.1 [(.aload_n 0, 1)] (pc' := 28) (by decide +kernel) rfl (lv' := [(0, sv_r a)]) (st' := [sv_r a]) rfl ?_
    refine sv_gf C (index := 48) (ci := 5) (k := 7) (r := (RX6, TX6, 13)) (v := sv_i v1) (by decide +kernel) (by rw [k_a]; rfl) rfl (by decide) fl_X6_48 (congrArg sv_i ev1) ?_
    refine sv_go C.1 C.2.1 [(.bipush 14, 2)] (pc' := 33) (by decide +kernel) rfl (lv' := [(0, sv_r a)]) (st' := [sv_i 14, sv_i v1]) rfl ?_
    refine sv_icmp C.1 C.2.1 (cnd := .lt) (off := 12) (tgt := 45) (by decide +kernel) (by decide) ⟨by omega, by omega⟩ ⟨by omega, by omega⟩ (fun (h3 : v1 < 14) => ?_) (fun (h3 : ¬ (v1 < 14)) => ?_)
    · refine sv_go C.1 C.2.1 [(.iconst 1, 1)] (pc' := 46) (by decide +kernel) rfl (lv' := [(0, sv_r a)]) (st' := [sv_i 1]) rfl ?_
      exact sv_iret C hr (by decide +kernel) hok (⟨⟨_, rfl, ⟨by omega, by omega⟩⟩, hI, hF, by rw [qn5, qn2]; omega, fq, pR4, k_fq⟩)
    · refine sv_go C.1 C.2.1 [(.aload_n 0, 1)] (pc' := 37) (by decide +kernel) rfl (lv' := [(0, sv_r a)]) (st' := [sv_r a]) rfl ?_
      refine sv_gf C (index := 48) (ci := 5) (k := 7) (r := (RX6, TX6, 13)) (v := sv_i v1) (by decide +kernel) (by rw [k_a]; rfl) rfl (by decide) fl_X6_48 (congrArg sv_i ev1) ?_
      refine sv_go C.1 C.2.1 [(.bipush 17, 2)] (pc' := 42) (by decide +kernel) rfl (lv' := [(0, sv_r a)]) (st' := [sv_i 17, sv_i v1]) rfl ?_
      refine sv_icmp C.1 C.2.1 (cnd := .le) (off := 5) (tgt := 47) (by decide +kernel) (by decide) ⟨by omega, by omega⟩ ⟨by omega, by omega⟩ (fun (h4 : v1 ≤ 17) => ?_) (fun (h4 : ¬ (v1 ≤ 17)) => ?_)
      · refine sv_go C.1 C.2.1 [(.iconst 1, 1), (.aload_n 0, 1)] (pc' := 49) (by decide +kernel) rfl (lv' := [(0, sv_r a)]) (st' := [sv_r a, sv_i 1]) rfl ?_
        refine sv_gf C (index := 48) (ci := 5) (k := 7) (r := (RX6, TX6, 13)) (v := sv_i v1) (by decide +kernel) (by rw [k_a]; rfl) rfl (by decide) fl_X6_48 (congrArg sv_i ev1) ?_
        refine sv_go C.1 C.2.1 [(.bipush 14, 2), (.isub, 1), (.ishl, 1), (.istore_n 1, 1), (.aload_n 0, 1)] (pc' := 58) (by decide +kernel) rfl (lv' := [(0, sv_r a), (1, sv_i ((Int32.ofInt 1 <<< (Int32.ofInt (v1 - 14) &&& 31)).toInt))]) (st' := [sv_r a]) rfl ?_
        have hb5 : (-2147483648) ≤ (Int32.ofInt 1 <<< (Int32.ofInt (v1 - 14) &&& 31)).toInt ∧ (Int32.ofInt 1 <<< (Int32.ofInt (v1 - 14) &&& 31)).toInt ≤ 2147483647 := sv_ioin2 (Int32.ofInt 1 <<< (Int32.ofInt (v1 - 14) &&& 31))
        obtain ⟨v6, ev6, hv6⟩ := sv_rdk hok (a := a) (k := 11) (ci := 5) (r := (RX6, TX6, 13)) (by rw [k_a]; rfl) rfl (by decide) rfl
        refine sv_gf C (index := 167) (ci := 5) (k := 11) (r := (RX6, TX6, 13)) (v := sv_i v6) (by decide +kernel) (by rw [k_a]; rfl) rfl (by decide) fl_X6_167 (congrArg sv_i ev6) ?_
        refine sv_go C.1 C.2.1 [(.iload_n 1, 1), (.iand, 1)] (pc' := 63) (by decide +kernel) rfl (lv' := [(0, sv_r a), (1, sv_i ((Int32.ofInt 1 <<< (Int32.ofInt (v1 - 14) &&& 31)).toInt))]) (st' := [sv_i ((Int32.ofInt v6 &&& Int32.ofInt ((Int32.ofInt 1 <<< (Int32.ofInt (v1 - 14) &&& 31)).toInt)).toInt)]) rfl ?_
        have hb7 : (-2147483648) ≤ (Int32.ofInt v6 &&& Int32.ofInt ((Int32.ofInt 1 <<< (Int32.ofInt (v1 - 14) &&& 31)).toInt)).toInt ∧ (Int32.ofInt v6 &&& Int32.ofInt ((Int32.ofInt 1 <<< (Int32.ofInt (v1 - 14) &&& 31)).toInt)).toInt ≤ 2147483647 := sv_ioin2 (Int32.ofInt v6 &&& Int32.ofInt ((Int32.ofInt 1 <<< (Int32.ofInt (v1 - 14) &&& 31)).toInt))
        refine sv_if C.1 C.2.1 (cnd := .eq) (off := 5) (tgt := 68) (by decide +kernel) (by decide) ⟨by omega, by omega⟩ (fun (h8 : ((Int32.ofInt v6 &&& Int32.ofInt ((Int32.ofInt 1 <<< (Int32.ofInt (v1 - 14) &&& 31)).toInt)).toInt) = 0) => ?_) (fun (h8 : ¬ (((Int32.ofInt v6 &&& Int32.ofInt ((Int32.ofInt 1 <<< (Int32.ofInt (v1 - 14) &&& 31)).toInt)).toInt) = 0)) => ?_)
        · refine sv_go C.1 C.2.1 [(.aload_n 0, 1), (.dup, 1)] (pc' := 70) (by decide +kernel) rfl (lv' := [(0, sv_r a), (1, sv_i ((Int32.ofInt 1 <<< (Int32.ofInt (v1 - 14) &&& 31)).toInt))]) (st' := [sv_r a, sv_r a]) rfl ?_
          refine sv_gf C (index := 167) (ci := 5) (k := 11) (r := (RX6, TX6, 13)) (v := sv_i v6) (by decide +kernel) (by rw [k_a]; rfl) rfl (by decide) fl_X6_167 (congrArg sv_i ev6) ?_
          refine sv_go C.1 C.2.1 [(.iload_n 1, 1), (.ior, 1)] (pc' := 75) (by decide +kernel) rfl (lv' := [(0, sv_r a), (1, sv_i ((Int32.ofInt 1 <<< (Int32.ofInt (v1 - 14) &&& 31)).toInt))]) (st' := [sv_i ((Int32.ofInt v6 ||| Int32.ofInt ((Int32.ofInt 1 <<< (Int32.ofInt (v1 - 14) &&& 31)).toInt)).toInt), sv_r a]) rfl ?_
          have hb9 : (-2147483648) ≤ (Int32.ofInt v6 ||| Int32.ofInt ((Int32.ofInt 1 <<< (Int32.ofInt (v1 - 14) &&& 31)).toInt)).toInt ∧ (Int32.ofInt v6 ||| Int32.ofInt ((Int32.ofInt 1 <<< (Int32.ofInt (v1 - 14) &&& 31)).toInt)).toInt ≤ 2147483647 := sv_ioin2 (Int32.ofInt v6 ||| Int32.ofInt ((Int32.ofInt 1 <<< (Int32.ofInt (v1 - 14) &&& 31)).toInt))
          refine sv_pf C (index := 167) (ci := 5) (k := 11) (r := (RX6, TX6, 13)) (z := (Int32.ofInt v6 ||| Int32.ofInt ((Int32.ofInt 1 <<< (Int32.ofInt (v1 - 14) &&& 31)).toInt)).toInt) (by decide +kernel) (by rw [k_a]; rfl) rfl (by decide) rfl fl_X6_167 rfl (Or.inl rfl) ⟨by omega, by omega⟩ (hTA _ (by rw [k_a]; decide)) hok (fun hok10 => ?_)
          have hI12 := hI.up (a := a) (k := 11) (z := (Int32.ofInt v6 ||| Int32.ofInt ((Int32.ofInt 1 <<< (Int32.ofInt (v1 - 14) &&& 31)).toInt)).toInt) (by rw [k_a]; exact trivial)
          have hF13 := hF.up (a := a) (k := 11) (z := (Int32.ofInt v6 ||| Int32.ofInt ((Int32.ofInt 1 <<< (Int32.ofInt (v1 - 14) &&& 31)).toInt)).toInt) (Or.inr (by rw [k_a]; decide))
          generalize eσ11 : sv_up σ a 11 ((Int32.ofInt v6 ||| Int32.ofInt ((Int32.ofInt 1 <<< (Int32.ofInt (v1 - 14) &&& 31)).toInt)).toInt) = σ11 at hok10 hI12 hF13 ⊢
          have t14 : σ11 a 2 = (tq : Int) + 1 := by rw [← eσ11, sv_up_k (by decide)]; exact pR2
          have t15 : σ11 a 3 = (cq : Int) + 1 := by rw [← eσ11, sv_up_k (by decide)]; exact pR3
          have t16 : σ11 a 4 = (fq : Int) + 1 := by rw [← eσ11, sv_up_k (by decide)]; exact pR4
          have t17 : σ11 a 5 = n5 := by rw [← eσ11, sv_up_k (by decide)]; exact qn5
          have t18 : σ11 cq 2 = n2 := by rw [← eσ11, sv_up_a (sv_ne k_cq k_a (by decide))]; exact qn2
          have t19 : σ11 a 7 = v1 := by rw [← eσ11, sv_up_k (by decide)]; exact ev1
          have t20 : σ11 a 11 = (Int32.ofInt v6 ||| Int32.ofInt ((Int32.ofInt 1 <<< (Int32.ofInt (v1 - 14) &&& 31)).toInt)).toInt := by rw [← eσ11]; exact sv_up_s _ _ _ _
          refine sv_go C.1 C.2.1 [(.aload_n 0, 1)] (pc' := 79) (by decide +kernel) rfl (lv' := [(0, sv_r a), (1, sv_i ((Int32.ofInt 1 <<< (Int32.ofInt (v1 - 14) &&& 31)).toInt))]) (st' := [sv_r a]) rfl ?_
          refine sv_gf C (index := 48) (ci := 5) (k := 7) (r := (RX6, TX6, 13)) (v := sv_i v1) (by decide +kernel) (by rw [k_a]; rfl) rfl (by decide) fl_X6_48 (congrArg sv_i t19) ?_
          rcases (show v1 = 14 ∨ v1 = 15 ∨ v1 = 16 ∨ (v1 ≠ 14 ∧ v1 ≠ 15 ∧ v1 ≠ 16) by omega) with h21 | h21 | h21 | h21
          · refine sv_tsI C.1 C.2.1 (dflt := 53) (lo := 14) (hi := 16) (offs := #[26, 36, 46]) (len := 26) (off := 26) (tgt := 108) (by decide +kernel) 14 h21 (by decide) rfl (by decide) ?_
            refine sv_go C.1 C.2.1 [(.aload_n 0, 1)] (pc' := 109) (by decide +kernel) rfl (lv' := [(0, sv_r a), (1, sv_i ((Int32.ofInt 1 <<< (Int32.ofInt (v1 - 14) &&& 31)).toInt))]) (st' := [sv_r a]) rfl ?_
            refine sv_gf C (index := 32) (ci := 5) (k := 4) (r := (RX6, TX6, 13)) (v := sv_r fq) (by decide +kernel) (by rw [k_a]; rfl) rfl (by decide) fl_X6_32 (congrArg sv_a t16) ?_
            refine sv_go C.1 C.2.1 [(.iconst 1, 1)] (pc' := 113) (by decide +kernel) rfl (lv' := [(0, sv_r a), (1, sv_i ((Int32.ofInt 1 <<< (Int32.ofInt (v1 - 14) &&& 31)).toInt))]) (st' := [sv_i 1, sv_r fq]) rfl ?_
            refine sv_pf C (index := 186) (ci := 2) (k := 8) (r := (RX3, TX3, 12)) (z := 1) (by decide +kernel) (by rw [k_fq]; rfl) rfl (by decide) rfl fl_X6_186 rfl (Or.inr (Or.inl rfl)) ⟨by omega, by omega⟩ (hTA _ (by rw [k_fq]; decide)) hok10 (fun hok22 => ?_)
            have hI24 := hI12.up (a := fq) (k := 8) (z := 1) (by rw [k_fq]; exact trivial)
            have hF25 := hF13.up (a := fq) (k := 8) (z := 1) (Or.inr (by rw [k_fq]; decide))
            generalize eσ23 : sv_up σ11 fq 8 1 = σ23 at hok22 hI24 hF25 ⊢
            have t26 : σ23 a 2 = (tq : Int) + 1 := by rw [← eσ23, sv_up_a (sv_ne k_a k_fq (by decide))]; exact t14
            have t27 : σ23 a 3 = (cq : Int) + 1 := by rw [← eσ23, sv_up_a (sv_ne k_a k_fq (by decide))]; exact t15
            have t28 : σ23 a 4 = (fq : Int) + 1 := by rw [← eσ23, sv_up_a (sv_ne k_a k_fq (by decide))]; exact t16
            have t29 : σ23 a 5 = n5 := by rw [← eσ23, sv_up_a (sv_ne k_a k_fq (by decide))]; exact t17
            have t30 : σ23 cq 2 = n2 := by rw [← eσ23, sv_up_a (sv_ne k_cq k_fq (by decide))]; exact t18
            have t31 : σ23 a 7 = v1 := by rw [← eσ23, sv_up_a (sv_ne k_a k_fq (by decide))]; exact t19
            have t32 : σ23 a 11 = (Int32.ofInt v6 ||| Int32.ofInt ((Int32.ofInt 1 <<< (Int32.ofInt (v1 - 14) &&& 31)).toInt)).toInt := by rw [← eσ23, sv_up_a (sv_ne k_a k_fq (by decide))]; exact t20
            have t33 : σ23 fq 8 = 1 := by rw [← eσ23]; exact sv_up_s _ _ _ _
            refine sv_go C.1 C.2.1 [(.iconst 0, 1)] (pc' := 117) (by decide +kernel) rfl (lv' := [(0, sv_r a), (1, sv_i ((Int32.ofInt 1 <<< (Int32.ofInt (v1 - 14) &&& 31)).toInt))]) (st' := [sv_i 0]) rfl ?_
            exact sv_iret C hr (by decide +kernel) hok22 (⟨⟨_, rfl, ⟨by omega, by omega⟩⟩, hI24, hF25, by rw [t29, t30]; omega, fq, t28, k_fq⟩)
          · refine sv_tsI C.1 C.2.1 (dflt := 53) (lo := 14) (hi := 16) (offs := #[26, 36, 46]) (len := 26) (off := 36) (tgt := 118) (by decide +kernel) 15 h21 (by decide) rfl (by decide) ?_
            refine sv_go C.1 C.2.1 [(.aload_n 0, 1)] (pc' := 119) (by decide +kernel) rfl (lv' := [(0, sv_r a), (1, sv_i ((Int32.ofInt 1 <<< (Int32.ofInt (v1 - 14) &&& 31)).toInt))]) (st' := [sv_r a]) rfl ?_
            refine sv_gf C (index := 32) (ci := 5) (k := 4) (r := (RX6, TX6, 13)) (v := sv_r fq) (by decide +kernel) (by rw [k_a]; rfl) rfl (by decide) fl_X6_32 (congrArg sv_a t16) ?_
            refine sv_go C.1 C.2.1 [(.iconst 1, 1)] (pc' := 123) (by decide +kernel) rfl (lv' := [(0, sv_r a), (1, sv_i ((Int32.ofInt 1 <<< (Int32.ofInt (v1 - 14) &&& 31)).toInt))]) (st' := [sv_i 1, sv_r fq]) rfl ?_
            refine sv_pf C (index := 188) (ci := 2) (k := 9) (r := (RX3, TX3, 12)) (z := 1) (by decide +kernel) (by rw [k_fq]; rfl) rfl (by decide) rfl fl_X6_188 rfl (Or.inr (Or.inl rfl)) ⟨by omega, by omega⟩ (hTA _ (by rw [k_fq]; decide)) hok10 (fun hok34 => ?_)
            have hI36 := hI12.up (a := fq) (k := 9) (z := 1) (by rw [k_fq]; exact trivial)
            have hF37 := hF13.up (a := fq) (k := 9) (z := 1) (Or.inr (by rw [k_fq]; decide))
            generalize eσ35 : sv_up σ11 fq 9 1 = σ35 at hok34 hI36 hF37 ⊢
            have t38 : σ35 a 2 = (tq : Int) + 1 := by rw [← eσ35, sv_up_a (sv_ne k_a k_fq (by decide))]; exact t14
            have t39 : σ35 a 3 = (cq : Int) + 1 := by rw [← eσ35, sv_up_a (sv_ne k_a k_fq (by decide))]; exact t15
            have t40 : σ35 a 4 = (fq : Int) + 1 := by rw [← eσ35, sv_up_a (sv_ne k_a k_fq (by decide))]; exact t16
            have t41 : σ35 a 5 = n5 := by rw [← eσ35, sv_up_a (sv_ne k_a k_fq (by decide))]; exact t17
            have t42 : σ35 cq 2 = n2 := by rw [← eσ35, sv_up_a (sv_ne k_cq k_fq (by decide))]; exact t18
            have t43 : σ35 a 7 = v1 := by rw [← eσ35, sv_up_a (sv_ne k_a k_fq (by decide))]; exact t19
            have t44 : σ35 a 11 = (Int32.ofInt v6 ||| Int32.ofInt ((Int32.ofInt 1 <<< (Int32.ofInt (v1 - 14) &&& 31)).toInt)).toInt := by rw [← eσ35, sv_up_a (sv_ne k_a k_fq (by decide))]; exact t20
            have t45 : σ35 fq 9 = 1 := by rw [← eσ35]; exact sv_up_s _ _ _ _
            refine sv_go C.1 C.2.1 [(.iconst 0, 1)] (pc' := 127) (by decide +kernel) rfl (lv' := [(0, sv_r a), (1, sv_i ((Int32.ofInt 1 <<< (Int32.ofInt (v1 - 14) &&& 31)).toInt))]) (st' := [sv_i 0]) rfl ?_
            exact sv_iret C hr (by decide +kernel) hok34 (⟨⟨_, rfl, ⟨by omega, by omega⟩⟩, hI36, hF37, by rw [t41, t42]; omega, fq, t40, k_fq⟩)
          · refine sv_tsI C.1 C.2.1 (dflt := 53) (lo := 14) (hi := 16) (offs := #[26, 36, 46]) (len := 26) (off := 46) (tgt := 128) (by decide +kernel) 16 h21 (by decide) rfl (by decide) ?_
            refine sv_go C.1 C.2.1 [(.aload_n 0, 1), (.bipush 16, 2)] (pc' := 131) (by decide +kernel) rfl (lv' := [(0, sv_r a), (1, sv_i ((Int32.ofInt 1 <<< (Int32.ofInt (v1 - 14) &&& 31)).toInt))]) (st' := [sv_i 16, sv_r a]) rfl ?_
            refine sv_cv C (index := 148) (k := 1) (rest := []) (ci := 5) (r := (RX6, TX6, 13)) (by decide +kernel) (sf_X6_goTo l g A ty σ11 hok10 hTA hI12 a k_a tq k_tq cq k_cq fq k_fq (16) ⟨by omega, by omega⟩ t14 t15 t16) ⟨co_X6_goTo, in_X6, ⟨by decide, by decide, by decide +kernel⟩, Nat.le_of_ble_eq_true rfl, Nat.le_of_ble_eq_true rfl⟩ ml_X6_148 im_X6_goTo se_X6_goTo (by rw [k_a]; rfl) rfl rfl rfl (Nat.le_of_ble_eq_true rfl) ⟨Nat.zero_le _, Nat.zero_le _⟩ (fun r47 σ48 hpo46 hok49 => ?_)
            obtain ⟨⟨vu50, rfl, hvu50⟩, hIu50, hFu50, xu50⟩ := hpo46
            have hGu50 := hF13.tr hFu50 (by decide) (by decide)
            have t51 : σ48 a 2 = (tq : Int) + 1 := (hFu50.at k_a (by decide) (by decide)).trans t14
            have t52 : σ48 a 3 = (cq : Int) + 1 := (hFu50.at k_a (by decide) (by decide)).trans t15
            have t53 : σ48 a 4 = (fq : Int) + 1 := (hFu50.at k_a (by decide) (by decide)).trans t16
            have t54 : σ48 cq 2 = n2 := (hFu50.at k_cq (by decide) (by decide)).trans t18
            have t55 : σ48 a 7 = v1 := (hFu50.at k_a (by decide) (by decide)).trans t19
            have t56 : σ48 a 11 = (Int32.ofInt v6 ||| Int32.ofInt ((Int32.ofInt 1 <<< (Int32.ofInt (v1 - 14) &&& 31)).toInt)).toInt := (hFu50.at k_a (by decide) (by decide)).trans t20
            refine sv_same (st2 := [sv_i vu50]) (lv2 := [(0, sv_r a), (1, sv_i ((Int32.ofInt 1 <<< (Int32.ofInt (v1 - 14) &&& 31)).toInt))]) rfl rfl ?_
            exact sv_iret C hr (by decide +kernel) hok49 (⟨⟨_, rfl, ⟨by omega, by omega⟩⟩, hIu50, hGu50, by rw [xu50, t54]; omega, fq, t53, k_fq⟩)
          · refine sv_tsO C.1 C.2.1 (dflt := 53) (lo := 14) (hi := 16) (offs := #[26, 36, 46]) (len := 26) (tgt := 135) (by decide +kernel) ⟨by omega, by omega⟩ (by omega) (by decide) ?_
            refine sv_go C.1 C.2.1 [(.aload_n 0, 1), (.bipush 17, 2)] (pc' := 138) (by decide +kernel) rfl (lv' := [(0, sv_r a), (1, sv_i ((Int32.ofInt 1 <<< (Int32.ofInt (v1 - 14) &&& 31)).toInt))]) (st' := [sv_i 17, sv_r a]) rfl ?_
            refine sv_cv C (index := 148) (k := 1) (rest := []) (ci := 5) (r := (RX6, TX6, 13)) (by decide +kernel) (sf_X6_goTo l g A ty σ11 hok10 hTA hI12 a k_a tq k_tq cq k_cq fq k_fq (17) ⟨by omega, by omega⟩ t14 t15 t16) ⟨co_X6_goTo, in_X6, ⟨by decide, by decide, by decide +kernel⟩, Nat.le_of_ble_eq_true rfl, Nat.le_of_ble_eq_true rfl⟩ ml_X6_148 im_X6_goTo se_X6_goTo (by rw [k_a]; rfl) rfl rfl rfl (Nat.le_of_ble_eq_true rfl) ⟨Nat.zero_le _, Nat.zero_le _⟩ (fun r58 σ59 hpo57 hok60 => ?_)
            obtain ⟨⟨vu61, rfl, hvu61⟩, hIu61, hFu61, xu61⟩ := hpo57
            have hGu61 := hF13.tr hFu61 (by decide) (by decide)
            have t62 : σ59 a 2 = (tq : Int) + 1 := (hFu61.at k_a (by decide) (by decide)).trans t14
            have t63 : σ59 a 3 = (cq : Int) + 1 := (hFu61.at k_a (by decide) (by decide)).trans t15
            have t64 : σ59 a 4 = (fq : Int) + 1 := (hFu61.at k_a (by decide) (by decide)).trans t16
            have t65 : σ59 cq 2 = n2 := (hFu61.at k_cq (by decide) (by decide)).trans t18
            have t66 : σ59 a 7 = v1 := (hFu61.at k_a (by decide) (by decide)).trans t19
            have t67 : σ59 a 11 = (Int32.ofInt v6 ||| Int32.ofInt ((Int32.ofInt 1 <<< (Int32.ofInt (v1 - 14) &&& 31)).toInt)).toInt := (hFu61.at k_a (by decide) (by decide)).trans t20
            refine sv_same (st2 := [sv_i vu61]) (lv2 := [(0, sv_r a), (1, sv_i ((Int32.ofInt 1 <<< (Int32.ofInt (v1 - 14) &&& 31)).toInt))]) rfl rfl ?_
            exact sv_iret C hr (by decide +kernel) hok60 (⟨⟨_, rfl, ⟨by omega, by omega⟩⟩, hIu61, hGu61, by rw [xu61, t65]; omega, fq, t64, k_fq⟩)
        · refine sv_go C.1 C.2.1 [(.iconst 5, 1)] (pc' := 67) (by decide +kernel) rfl (lv' := [(0, sv_r a), (1, sv_i ((Int32.ofInt 1 <<< (Int32.ofInt (v1 - 14) &&& 31)).toInt))]) (st' := [sv_i 5]) rfl ?_
          exact sv_iret C hr (by decide +kernel) hok (⟨⟨_, rfl, ⟨by omega, by omega⟩⟩, hI, hF, by rw [qn5, qn2]; omega, fq, pR4, k_fq⟩)
      · refine sv_go C.1 C.2.1 [(.iconst 1, 1)] (pc' := 46) (by decide +kernel) rfl (lv' := [(0, sv_r a)]) (st' := [sv_i 1]) rfl ?_
        exact sv_iret C hr (by decide +kernel) hok (⟨⟨_, rfl, ⟨by omega, by omega⟩⟩, hI, hF, by rw [qn5, qn2]; omega, fq, pR4, k_fq⟩)
  · refine sv_go C.1 C.2.1 [(.aload_n 0, 1)] (pc' := 9) (by decide +kernel) rfl (lv' := [(0, sv_r a)]) (st' := [sv_r a]) rfl ?_
    refine sv_gf C (index := 19) (ci := 5) (k := 3) (r := (RX6, TX6, 13)) (v := sv_r cq) (by decide +kernel) (by rw [k_a]; rfl) rfl (by decide) fl_X6_19 (congrArg sv_a pR3) ?_
    refine sv_go C.1 C.2.1 [(.dup, 1)] (pc' := 13) (by decide +kernel) rfl (lv' := [(0, sv_r a)]) (st' := [sv_r cq, sv_r cq]) rfl ?_
    refine sv_gf C (index := 161) (ci := 1) (k := 2) (r := (RX1, TX1, 6)) (v := sv_i n2) (by decide +kernel) (by rw [k_cq]; rfl) rfl (by decide) fl_X6_161 (congrArg sv_i qn2) ?_
    refine sv_go C.1 C.2.1 [(.iconst 1, 1), (.iadd, 1)] (pc' := 18) (by decide +kernel) rfl (lv' := [(0, sv_r a)]) (st' := [sv_i (n2 + 1), sv_r cq]) rfl ?_
    refine sv_pf C (index := 161) (ci := 1) (k := 2) (r := (RX1, TX1, 6)) (z := n2 + 1) (by decide +kernel) (by rw [k_cq]; rfl) rfl (by decide) rfl fl_X6_161 rfl (Or.inl rfl) ⟨by omega, by omega⟩ (hTA _ (by rw [k_cq]; decide)) hok (fun hok68 => ?_)
    have hI70 := hI.up (a := cq) (k := 2) (z := n2 + 1) (by rw [k_cq]; exact ⟨by omega, by omega⟩)
    have hF71 := hF.up (a := cq) (k := 2) (z := n2 + 1) (Or.inr (by rw [k_cq]; decide))
    generalize eσ69 : sv_up σ cq 2 (n2 + 1) = σ69 at hok68 hI70 hF71 ⊢
    have t72 : σ69 a 2 = (tq : Int) + 1 := by rw [← eσ69, sv_up_a (sv_ne k_a k_cq (by decide))]; exact pR2
    have t73 : σ69 a 3 = (cq : Int) + 1 := by rw [← eσ69, sv_up_a (sv_ne k_a k_cq (by decide))]; exact pR3
    have t74 : σ69 a 4 = (fq : Int) + 1 := by rw [← eσ69, sv_up_a (sv_ne k_a k_cq (by decide))]; exact pR4
    have t75 : σ69 a 5 = n5 := by rw [← eσ69, sv_up_a (sv_ne k_a k_cq (by decide))]; exact qn5
    have t76 : σ69 a 7 = v1 := by rw [← eσ69, sv_up_a (sv_ne k_a k_cq (by decide))]; exact ev1
    have t77 : σ69 cq 2 = n2 + 1 := by rw [← eσ69]; exact sv_up_s _ _ _ _
    refine sv_go C.1 C.2.1 [(.aload_n 0, 1), (.iconst 0, 1)] (pc' := 23) (by decide +kernel) rfl (lv' := [(0, sv_r a)]) (st' := [sv_i 0, sv_r a]) rfl ?_
    refine sv_cv C (index := 148) (k := 1) (rest := []) (ci := 5) (r := (RX6, TX6, 13)) (by decide +kernel) (sf_X6_goTo l g A ty σ69 hok68 hTA hI70 a k_a tq k_tq cq k_cq fq k_fq (0) ⟨by omega, by omega⟩ t72 t73 t74) ⟨co_X6_goTo, in_X6, ⟨by decide, by decide, by decide +kernel⟩, Nat.le_of_ble_eq_true rfl, Nat.le_of_ble_eq_true rfl⟩ ml_X6_148 im_X6_goTo se_X6_goTo (by rw [k_a]; rfl) rfl rfl rfl (Nat.le_of_ble_eq_true rfl) ⟨Nat.zero_le _, Nat.zero_le _⟩ (fun r79 σ80 hpo78 hok81 => ?_)
    obtain ⟨⟨vu82, rfl, hvu82⟩, hIu82, hFu82, xu82⟩ := hpo78
    have hGu82 := hF71.tr hFu82 (by decide) (by decide)
    have t83 : σ80 a 2 = (tq : Int) + 1 := (hFu82.at k_a (by decide) (by decide)).trans t72
    have t84 : σ80 a 3 = (cq : Int) + 1 := (hFu82.at k_a (by decide) (by decide)).trans t73
    have t85 : σ80 a 4 = (fq : Int) + 1 := (hFu82.at k_a (by decide) (by decide)).trans t74
    have t86 : σ80 a 7 = v1 := (hFu82.at k_a (by decide) (by decide)).trans t76
    have t87 : σ80 cq 2 = n2 + 1 := (hFu82.at k_cq (by decide) (by decide)).trans t77
    refine sv_same (st2 := [sv_i vu82]) (lv2 := [(0, sv_r a)]) rfl rfl ?_
    exact sv_iret C hr (by decide +kernel) hok81 (⟨⟨_, rfl, ⟨by omega, by omega⟩⟩, hIu82, hGu82, by rw [xu82, t87]; omega, fq, t85, k_fq⟩)

theorem ml_X6_129 : Cond.methodLink RX6 129 yX6_takeLineWord ∈ lw_good := sv_mem 552 (by decide +kernel) rfl
theorem co_X6_takeLineWord : Cond.code yX6_takeLineWord cX6_takeLineWord 1 (some .int) ∈ lw_good := sv_mem 555 (by decide +kernel) rfl
theorem im_X6_takeLineWord : Cond.instanceMethod yX6_takeLineWord ∈ lw_good := sv_mem 554 (by decide +kernel) rfl
theorem se_X6_takeLineWord : Cond.selects RX6 yX6_takeLineWord yX6_takeLineWord ∈ lw_good := sv_mem 6 (by decide +kernel) rfl
theorem ml_X6_132 : Cond.methodLink RX6 132 yX6_takeMinusOrShift ∈ lw_good := sv_mem 568 (by decide +kernel) rfl
theorem co_X6_takeMinusOrShift : Cond.code yX6_takeMinusOrShift cX6_takeMinusOrShift 1 (some .int) ∈ lw_good := sv_mem 571 (by decide +kernel) rfl
theorem im_X6_takeMinusOrShift : Cond.instanceMethod yX6_takeMinusOrShift ∈ lw_good := sv_mem 570 (by decide +kernel) rfl
theorem se_X6_takeMinusOrShift : Cond.selects RX6 yX6_takeMinusOrShift yX6_takeMinusOrShift ∈ lw_good := sv_mem 9 (by decide +kernel) rfl
theorem ml_X6_135 : Cond.methodLink RX6 135 yX6_pass ∈ lw_good := sv_mem 597 (by decide +kernel) rfl
theorem co_X6_pass : Cond.code yX6_pass cX6_pass 3 (some .int) ∈ lw_good := sv_mem 600 (by decide +kernel) rfl
theorem im_X6_pass : Cond.instanceMethod yX6_pass ∈ lw_good := sv_mem 599 (by decide +kernel) rfl
theorem se_X6_pass : Cond.selects RX6 yX6_pass yX6_pass ∈ lw_good := sv_mem 15 (by decide +kernel) rfl
theorem ml_X6_139 : Cond.methodLink RX6 139 yX6_takeName ∈ lw_good := sv_mem 601 (by decide +kernel) rfl
theorem co_X6_takeName : Cond.code yX6_takeName cX6_takeName 1 (some .int) ∈ lw_good := sv_mem 604 (by decide +kernel) rfl
theorem im_X6_takeName : Cond.instanceMethod yX6_takeName ∈ lw_good := sv_mem 603 (by decide +kernel) rfl
theorem se_X6_takeName : Cond.selects RX6 yX6_takeName yX6_takeName ∈ lw_good := sv_mem 16 (by decide +kernel) rfl
theorem ml_X6_142 : Cond.methodLink RX6 142 yX6_takeMark ∈ lw_good := sv_mem 614 (by decide +kernel) rfl
theorem co_X6_takeMark : Cond.code yX6_takeMark cX6_takeMark 2 (some .int) ∈ lw_good := sv_mem 617 (by decide +kernel) rfl
theorem im_X6_takeMark : Cond.instanceMethod yX6_takeMark ∈ lw_good := sv_mem 616 (by decide +kernel) rfl
theorem se_X6_takeMark : Cond.selects RX6 yX6_takeMark yX6_takeMark ∈ lw_good := sv_mem 17 (by decide +kernel) rfl
set_option maxHeartbeats 4000000 in
set_option maxRecDepth 100000 in
theorem sf_X6_takeToken (l : Launch) (g : sv_G) (A : Nat → Prop) (ty : Nat → Nat) (σ : Nat → Nat → Int) (hok : sv_ok ty σ) (hTA : ∀ q, ty q ≠ 0 → A q) (hI : sv_inv sp_1 ty σ) (a : Nat) (k_a : ty a = 3) (tq : Nat) (k_tq : ty tq = 2) (cq : Nat) (k_cq : ty cq = 7) (fq : Nat) (k_fq : ty fq = 8) (n5 : Int) (h_n5 : 0 ≤ n5 ∧ n5 ≤ 22) (n2 : Int) (h_n2 : 0 ≤ n2 ∧ n2 ≤ 60) (pR2 : σ a 2 = (tq : Int) + 1) (pR3 : σ a 3 = (cq : Int) + 1) (pR4 : σ a 4 = (fq : Int) + 1) (qn5 : σ a 5 = n5) (qn2 : σ cq 2 = n2) (hJ : n5 = 0 ∨ n5 = 5 ∨ 18 ≤ n5 ∨ n2 ≤ 59) : sv_M l yX6_takeToken cX6_takeToken 1 (some .int) { frames := 4, cells := 0, slots := 0, locals := 81 } g A ty σ [sv_r a] (fun r σ' => (∃ rv : Int, r = [sv_i rv] ∧ (0 ≤ rv ∧ rv ≤ 5)) ∧ sv_inv sp_1 ty σ' ∧ sv_ofx [(3, 4), (3, 5), (3, 10), (3, 11), (3, 12), (7, 2), (7, 3), (7, 4), (7, 5), (8, 0), (8, 1), (8, 2), (8, 3), (8, 4), (8, 5), (8, 6), (8, 7), (8, 8), (8, 9), (8, 10), (8, 11)] [23] ty σ σ' ∧ (σ' a 5 = 0 ∨ σ' a 5 = 5 ∨ 18 ≤ σ' a 5 ∨ σ' cq 2 ≤ 59) ∧ ∃ fz : Nat, σ' a 4 = (fz : Int) + 1 ∧ ty fz = 8) := by
  refine sv_enter (by decide) (Nat.le_of_ble_eq_true rfl) ?_
  intro p e s m args below meth c C hr
  have C : sv_C g A RX6 cX6_takeToken 1 p s m args meth c := C
  have hr : meth.sig.returnType = (some .int) := hr
  have hF : sv_ofx [(3, 4), (3, 5), (3, 10), (3, 11), (3, 12), (7, 2), (7, 3), (7, 4), (7, 5), (8, 0), (8, 1), (8, 2), (8, 3), (8, 4), (8, 5), (8, 6), (8, 7), (8, 8), (8, 9), (8, 10), (8, 11)] [23] ty σ σ := sv_ofx.rf
  refine sv_same (st2 := []) (lv2 := [(0, sv_r a)]) rfl rfl ?_
  refine sv_go C.1 C.2.1 [(.aload_n 0, 1)] (pc' := 1) (by decide +kernel) rfl (lv' := [(0, sv_r a)]) (st' := [sv_r a]) rfl ?_
  refine sv_gf C (index := 36) (ci := 5) (k := 5) (r := (RX6, TX6, 13)) (v := sv_i n5) (by decide +kernel) (by rw [k_a]; rfl) rfl (by decide) fl_X6_36 (congrArg sv_i qn5) ?_
  rcases (show n5 = 0 ∨ n5 = 1 ∨ n5 = 2 ∨ n5 = 3 ∨ n5 = 4 ∨ n5 = 5 ∨ (n5 ≠ 0 ∧ n5 ≠ 1 ∧ n5 ≠ 2 ∧ n5 ≠ 3 ∧ n5 ≠ 4 ∧ n5 ≠ 5) by omega) with h1 | h1 | h1 | h1 | h1 | h1 | h1
  · refine sv_tsI C.1 C.2.1 (dflt := 76) (lo := 0) (hi := 5) (offs := #[40, 45, 50, 59, 64, 69]) (len := 40) (off := 40) (tgt := 44) (by decide +kernel) 0 h1 (by decide) rfl (by decide) ?_
    refine sv_go C.1 C.2.1 [(.aload_n 0, 1)] (pc' := 45) (by decide +kernel) rfl (lv' := [(0, sv_r a)]) (st' := [sv_r a]) rfl ?_
    refine sv_cv C (index := 129) (k := 0) (rest := []) (ci := 5) (r := (RX6, TX6, 13)) (by decide +kernel) (sf_X6_takeLineWord l g A ty σ hok hTA hI a k_a tq k_tq cq k_cq fq k_fq (n5) ⟨by omega, by omega⟩ (n2) ⟨by omega, by omega⟩ pR2 pR3 pR4 qn5 qn2 (by omega)) ⟨co_X6_takeLineWord, in_X6, ⟨by decide, by decide, by decide +kernel⟩, Nat.le_of_ble_eq_true rfl, Nat.le_of_ble_eq_true rfl⟩ ml_X6_129 im_X6_takeLineWord se_X6_takeLineWord (by rw [k_a]; rfl) rfl rfl rfl (Nat.le_of_ble_eq_true rfl) ⟨Nat.zero_le _, Nat.zero_le _⟩ (fun r3 σ4 hpo2 hok5 => ?_)
    obtain ⟨⟨vu6, rfl, hvu6⟩, hIu6, hFu6, xu6⟩ := hpo2
    have hGu6 := hF.tr hFu6 (by decide) (by decide)
    have t7 : σ4 a 2 = (tq : Int) + 1 := (hFu6.at k_a (by decide) (by decide)).trans pR2
    have t8 : σ4 a 3 = (cq : Int) + 1 := (hFu6.at k_a (by decide) (by decide)).trans pR3
    have t9 : σ4 cq 2 = n2 := (hFu6.at k_cq (by decide) (by decide)).trans qn2
    obtain ⟨wu6_5, ewu6_5, hwu6_5⟩ := sv_rdn hIu6 (k := 5) k_a rfl
    rw [ewu6_5] at xu6
    rw [t9] at xu6
    obtain ⟨xu6, fu6, efu6, kfu6⟩ := xu6
    refine sv_same (st2 := [sv_i vu6]) (lv2 := [(0, sv_r a)]) rfl rfl ?_
    exact sv_iret C hr (by decide +kernel) hok5 (⟨⟨_, rfl, ⟨by omega, by omega⟩⟩, hIu6, hGu6, by rw [ewu6_5, t9]; omega, fu6, efu6, kfu6⟩)
  · refine sv_tsI C.1 C.2.1 (dflt := 76) (lo := 0) (hi := 5) (offs := #[40, 45, 50, 59, 64, 69]) (len := 40) (off := 45) (tgt := 49) (by decide +kernel) 1 h1 (by decide) rfl (by decide) ?_
    refine sv_go C.1 C.2.1 [(.aload_n 0, 1)] (pc' := 50) (by decide +kernel) rfl (lv' := [(0, sv_r a)]) (st' := [sv_r a]) rfl ?_
    refine sv_cv C (index := 132) (k := 0) (rest := []) (ci := 5) (r := (RX6, TX6, 13)) (by decide +kernel) (sf_X6_takeMinusOrShift l g A ty σ hok hTA hI a k_a tq k_tq cq k_cq fq k_fq (n5) ⟨by omega, by omega⟩ (n2) ⟨by omega, by omega⟩ pR2 pR3 pR4 qn5 qn2 (by omega) (by omega)) ⟨co_X6_takeMinusOrShift, in_X6, ⟨by decide, by decide, by decide +kernel⟩, Nat.le_of_ble_eq_true rfl, Nat.le_of_ble_eq_true rfl⟩ ml_X6_132 im_X6_takeMinusOrShift se_X6_takeMinusOrShift (by rw [k_a]; rfl) rfl rfl rfl (Nat.le_of_ble_eq_true rfl) ⟨Nat.zero_le _, Nat.zero_le _⟩ (fun r11 σ12 hpo10 hok13 => ?_)
    obtain ⟨⟨vu14, rfl, hvu14⟩, hIu14, hFu14, xu14⟩ := hpo10
    have hGu14 := hF.tr hFu14 (by decide) (by decide)
    have t15 : σ12 a 2 = (tq : Int) + 1 := (hFu14.at k_a (by decide) (by decide)).trans pR2
    have t16 : σ12 a 3 = (cq : Int) + 1 := (hFu14.at k_a (by decide) (by decide)).trans pR3
    have t17 : σ12 a 4 = (fq : Int) + 1 := (hFu14.at k_a (by decide) (by decide)).trans pR4
    have t18 : σ12 cq 2 = n2 := (hFu14.at k_cq (by decide) (by decide)).trans qn2
    obtain ⟨wu14_5, ewu14_5, hwu14_5⟩ := sv_rdn hIu14 (k := 5) k_a rfl
    rw [ewu14_5] at xu14
    rw [t18] at xu14
    obtain ⟨xu14, fu14, efu14, kfu14⟩ := xu14
    refine sv_same (st2 := [sv_i vu14]) (lv2 := [(0, sv_r a)]) rfl rfl ?_
    exact sv_iret C hr (by decide +kernel) hok13 (⟨⟨_, rfl, ⟨by omega, by omega⟩⟩, hIu14, hGu14, by rw [ewu14_5, t18]; omega, fu14, efu14, kfu14⟩)
  · refine sv_tsI C.1 C.2.1 (dflt := 76) (lo := 0) (hi := 5) (offs := #[40, 45, 50, 59, 64, 69]) (len := 40) (off := 50) (tgt := 54) (by decide +kernel) 2 h1 (by decide) rfl (by decide) ?_
    refine sv_go C.1 C.2.1 [(.aload_n 0, 1), (.bipush 13, 2), (.bipush 15, 2)] (pc' := 59) (by decide +kernel) rfl (lv' := [(0, sv_r a)]) (st' := [sv_i 15, sv_i 13, sv_r a]) rfl ?_
    refine sv_cv C (index := 135) (k := 2) (rest := []) (ci := 5) (r := (RX6, TX6, 13)) (by decide +kernel) (sf_X6_pass l g A ty σ hok hTA hI a k_a tq k_tq cq k_cq fq k_fq (13) ⟨by omega, by omega⟩ (15) ⟨by omega, by omega⟩ (n5) ⟨by omega, by omega⟩ (n2) ⟨by omega, by omega⟩ pR2 pR3 pR4 qn5 qn2 (by omega) (by omega)) ⟨co_X6_pass, in_X6, ⟨by decide, by decide, by decide +kernel⟩, Nat.le_of_ble_eq_true rfl, Nat.le_of_ble_eq_true rfl⟩ ml_X6_135 im_X6_pass se_X6_pass (by rw [k_a]; rfl) rfl rfl rfl (Nat.le_of_ble_eq_true rfl) ⟨Nat.zero_le _, Nat.zero_le _⟩ (fun r20 σ21 hpo19 hok22 => ?_)
    obtain ⟨⟨vu23, rfl, hvu23⟩, hIu23, hFu23, xu23⟩ := hpo19
    have hGu23 := hF.tr hFu23 (by decide) (by decide)
    have t24 : σ21 a 2 = (tq : Int) + 1 := (hFu23.at k_a (by decide) (by decide)).trans pR2
    have t25 : σ21 a 3 = (cq : Int) + 1 := (hFu23.at k_a (by decide) (by decide)).trans pR3
    have t26 : σ21 a 4 = (fq : Int) + 1 := (hFu23.at k_a (by decide) (by decide)).trans pR4
    have t27 : σ21 cq 2 = n2 := (hFu23.at k_cq (by decide) (by decide)).trans qn2
    obtain ⟨wu23_5, ewu23_5, hwu23_5⟩ := sv_rdn hIu23 (k := 5) k_a rfl
    rw [ewu23_5] at xu23
    rw [t27] at xu23
    obtain ⟨xu23, fu23, efu23, kfu23⟩ := xu23
    refine sv_same (st2 := [sv_i vu23]) (lv2 := [(0, sv_r a)]) rfl rfl ?_
    exact sv_iret C hr (by decide +kernel) hok22 (⟨⟨_, rfl, ⟨by omega, by omega⟩⟩, hIu23, hGu23, by rw [ewu23_5, t27]; omega, fu23, efu23, kfu23⟩)
  · refine sv_tsI C.1 C.2.1 (dflt := 76) (lo := 0) (hi := 5) (offs := #[40, 45, 50, 59, 64, 69]) (len := 40) (off := 59) (tgt := 63) (by decide +kernel) 3 h1 (by decide) rfl (by decide) ?_
    refine sv_go C.1 C.2.1 [(.aload_n 0, 1)] (pc' := 64) (by decide +kernel) rfl (lv' := [(0, sv_r a)]) (st' := [sv_r a]) rfl ?_
    refine sv_cv C (index := 139) (k := 0) (rest := []) (ci := 5) (r := (RX6, TX6, 13)) (by decide +kernel) (sf_X6_takeName l g A ty σ hok hTA hI a k_a tq k_tq cq k_cq fq k_fq (n5) ⟨by omega, by omega⟩ (n2) ⟨by omega, by omega⟩ pR2 pR3 pR4 qn5 qn2 (by omega) (by omega)) ⟨co_X6_takeName, in_X6, ⟨by decide, by decide, by decide +kernel⟩, Nat.le_of_ble_eq_true rfl, Nat.le_of_ble_eq_true rfl⟩ ml_X6_139 im_X6_takeName se_X6_takeName (by rw [k_a]; rfl) rfl rfl rfl (Nat.le_of_ble_eq_true rfl) ⟨Nat.zero_le _, Nat.zero_le _⟩ (fun r29 σ30 hpo28 hok31 => ?_)
    obtain ⟨⟨vu32, rfl, hvu32⟩, hIu32, hFu32, xu32⟩ := hpo28
    have hGu32 := hF.tr hFu32 (by decide) (by decide)
    have t33 : σ30 a 2 = (tq : Int) + 1 := (hFu32.at k_a (by decide) (by decide)).trans pR2
    have t34 : σ30 a 3 = (cq : Int) + 1 := (hFu32.at k_a (by decide) (by decide)).trans pR3
    have t35 : σ30 a 4 = (fq : Int) + 1 := (hFu32.at k_a (by decide) (by decide)).trans pR4
    have t36 : σ30 cq 2 = n2 := (hFu32.at k_cq (by decide) (by decide)).trans qn2
    obtain ⟨wu32_5, ewu32_5, hwu32_5⟩ := sv_rdn hIu32 (k := 5) k_a rfl
    rw [ewu32_5] at xu32
    rw [t36] at xu32
    obtain ⟨xu32, fu32, efu32, kfu32⟩ := xu32
    refine sv_same (st2 := [sv_i vu32]) (lv2 := [(0, sv_r a)]) rfl rfl ?_
    exact sv_iret C hr (by decide +kernel) hok31 (⟨⟨_, rfl, ⟨by omega, by omega⟩⟩, hIu32, hGu32, by rw [ewu32_5, t36]; omega, fu32, efu32, kfu32⟩)
  · refine sv_tsI C.1 C.2.1 (dflt := 76) (lo := 0) (hi := 5) (offs := #[40, 45, 50, 59, 64, 69]) (len := 40) (off := 64) (tgt := 68) (by decide +kernel) 4 h1 (by decide) rfl (by decide) ?_
    refine sv_go C.1 C.2.1 [(.aload_n 0, 1)] (pc' := 69) (by decide +kernel) rfl (lv' := [(0, sv_r a)]) (st' := [sv_r a]) rfl ?_
    refine sv_cv C (index := 142) (k := 0) (rest := []) (ci := 5) (r := (RX6, TX6, 13)) (by decide +kernel) (sf_X6_takeMark l g A ty σ hok hTA hI a k_a tq k_tq cq k_cq fq k_fq (n5) ⟨by omega, by omega⟩ (n2) ⟨by omega, by omega⟩ pR2 pR3 pR4 qn5 qn2 (by omega) (by omega)) ⟨co_X6_takeMark, in_X6, ⟨by decide, by decide, by decide +kernel⟩, Nat.le_of_ble_eq_true rfl, Nat.le_of_ble_eq_true rfl⟩ ml_X6_142 im_X6_takeMark se_X6_takeMark (by rw [k_a]; rfl) rfl rfl rfl (Nat.le_of_ble_eq_true rfl) ⟨Nat.zero_le _, Nat.zero_le _⟩ (fun r38 σ39 hpo37 hok40 => ?_)
    obtain ⟨⟨vu41, rfl, hvu41⟩, hIu41, hFu41, xu41⟩ := hpo37
    have hGu41 := hF.tr hFu41 (by decide) (by decide)
    have t42 : σ39 a 2 = (tq : Int) + 1 := (hFu41.at k_a (by decide) (by decide)).trans pR2
    have t43 : σ39 a 3 = (cq : Int) + 1 := (hFu41.at k_a (by decide) (by decide)).trans pR3
    have t44 : σ39 a 4 = (fq : Int) + 1 := (hFu41.at k_a (by decide) (by decide)).trans pR4
    obtain ⟨wu41_5, ewu41_5, hwu41_5⟩ := sv_rdn hIu41 (k := 5) k_a rfl
    rw [ewu41_5] at xu41
    obtain ⟨wu41_2, ewu41_2, hwu41_2⟩ := sv_rdn hIu41 (k := 2) k_cq rfl
    rw [ewu41_2] at xu41
    obtain ⟨xu41, fu41, efu41, kfu41⟩ := xu41
    refine sv_same (st2 := [sv_i vu41]) (lv2 := [(0, sv_r a)]) rfl rfl ?_
    exact sv_iret C hr (by decide +kernel) hok40 (⟨⟨_, rfl, ⟨by omega, by omega⟩⟩, hIu41, hGu41, by rw [ewu41_5, ewu41_2]; omega, fu41, efu41, kfu41⟩)
  · refine sv_tsI C.1 C.2.1 (dflt := 76) (lo := 0) (hi := 5) (offs := #[40, 45, 50, 59, 64, 69]) (len := 40) (off := 69) (tgt := 73) (by decide +kernel) 5 h1 (by decide) rfl (by decide) ?_
    refine sv_go C.1 C.2.1 [(.aload_n 0, 1), (.iconst 4, 1), (.iconst 0, 1)] (pc' := 76) (by decide +kernel) rfl (lv' := [(0, sv_r a)]) (st' := [sv_i 0, sv_i 4, sv_r a]) rfl ?_
    refine sv_cv C (index := 135) (k := 2) (rest := []) (ci := 5) (r := (RX6, TX6, 13)) (by decide +kernel) (sf_X6_pass l g A ty σ hok hTA hI a k_a tq k_tq cq k_cq fq k_fq (4) ⟨by omega, by omega⟩ (0) ⟨by omega, by omega⟩ (n5) ⟨by omega, by omega⟩ (n2) ⟨by omega, by omega⟩ pR2 pR3 pR4 qn5 qn2 (by omega) (by omega)) ⟨co_X6_pass, in_X6, ⟨by decide, by decide, by decide +kernel⟩, Nat.le_of_ble_eq_true rfl, Nat.le_of_ble_eq_true rfl⟩ ml_X6_135 im_X6_pass se_X6_pass (by rw [k_a]; rfl) rfl rfl rfl (Nat.le_of_ble_eq_true rfl) ⟨Nat.zero_le _, Nat.zero_le _⟩ (fun r46 σ47 hpo45 hok48 => ?_)
    obtain ⟨⟨vu49, rfl, hvu49⟩, hIu49, hFu49, xu49⟩ := hpo45
    have hGu49 := hF.tr hFu49 (by decide) (by decide)
    have t50 : σ47 a 2 = (tq : Int) + 1 := (hFu49.at k_a (by decide) (by decide)).trans pR2
    have t51 : σ47 a 3 = (cq : Int) + 1 := (hFu49.at k_a (by decide) (by decide)).trans pR3
    have t52 : σ47 a 4 = (fq : Int) + 1 := (hFu49.at k_a (by decide) (by decide)).trans pR4
    have t53 : σ47 cq 2 = n2 := (hFu49.at k_cq (by decide) (by decide)).trans qn2
    obtain ⟨wu49_5, ewu49_5, hwu49_5⟩ := sv_rdn hIu49 (k := 5) k_a rfl
    rw [ewu49_5] at xu49
    rw [t53] at xu49
    obtain ⟨xu49, fu49, efu49, kfu49⟩ := xu49
    refine sv_same (st2 := [sv_i vu49]) (lv2 := [(0, sv_r a)]) rfl rfl ?_
    exact sv_iret C hr (by decide +kernel) hok48 (⟨⟨_, rfl, ⟨by omega, by omega⟩⟩, hIu49, hGu49, by rw [ewu49_5, t53]; omega, fu49, efu49, kfu49⟩)
  · refine sv_tsO C.1 C.2.1 (dflt := 76) (lo := 0) (hi := 5) (offs := #[40, 45, 50, 59, 64, 69]) (len := 40) (tgt := 80) (by decide +kernel) ⟨by omega, by omega⟩ (by omega) (by decide) ?_
    refine sv_go C.1 C.2.1 [(.aload_n 0, 1)] (pc' := 81) (by decide +kernel) rfl (lv' := [(0, sv_r a)]) (st' := [sv_r a]) rfl ?_
    refine sv_cv C (index := 145) (k := 0) (rest := []) (ci := 5) (r := (RX6, TX6, 13)) (by decide +kernel) (sf_X6_takeNumber l g A ty σ hok hTA hI a k_a tq k_tq cq k_cq fq k_fq (n5) ⟨by omega, by omega⟩ (n2) ⟨by omega, by omega⟩ pR2 pR3 pR4 qn5 qn2 (by omega) (by omega)) ⟨co_X6_takeNumber, in_X6, ⟨by decide, by decide, by decide +kernel⟩, Nat.le_of_ble_eq_true rfl, Nat.le_of_ble_eq_true rfl⟩ ml_X6_145 im_X6_takeNumber se_X6_takeNumber (by rw [k_a]; rfl) rfl rfl rfl (Nat.le_of_ble_eq_true rfl) ⟨Nat.zero_le _, Nat.zero_le _⟩ (fun r55 σ56 hpo54 hok57 => ?_)
    obtain ⟨⟨vu58, rfl, hvu58⟩, hIu58, hFu58, xu58⟩ := hpo54
    have hGu58 := hF.tr hFu58 (by decide) (by decide)
    have t59 : σ56 a 2 = (tq : Int) + 1 := (hFu58.at k_a (by decide) (by decide)).trans pR2
    have t60 : σ56 a 3 = (cq : Int) + 1 := (hFu58.at k_a (by decide) (by decide)).trans pR3
    have t61 : σ56 a 4 = (fq : Int) + 1 := (hFu58.at k_a (by decide) (by decide)).trans pR4
    have t62 : σ56 cq 2 = n2 := (hFu58.at k_cq (by decide) (by decide)).trans qn2
    obtain ⟨wu58_5, ewu58_5, hwu58_5⟩ := sv_rdn hIu58 (k := 5) k_a rfl
    rw [ewu58_5] at xu58
    rw [t62] at xu58
    obtain ⟨xu58, fu58, efu58, kfu58⟩ := xu58
    refine sv_same (st2 := [sv_i vu58]) (lv2 := [(0, sv_r a)]) rfl rfl ?_
    exact sv_iret C hr (by decide +kernel) hok57 (⟨⟨_, rfl, ⟨by omega, by omega⟩⟩, hIu58, hGu58, by rw [ewu58_5, t62]; omega, fu58, efu58, kfu58⟩)
