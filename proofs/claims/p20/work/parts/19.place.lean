theorem fl_X4_21 : Cond.fieldLink RX4 21 "SaintsRoad$Place" "calendar" "LSaintsRoad$Calendar;" ∈ lw_good := sv_mem 278 (by decide +kernel) rfl
theorem fl_X4_37 : Cond.fieldLink RX4 37 "SaintsRoad$Place" "settledYear" "I" ∈ lw_good := sv_mem 287 (by decide +kernel) rfl
set_option maxHeartbeats 4000000 in
set_option maxRecDepth 100000 in
theorem sf_X4_exchange (l : Launch) (g : sv_G) (A : Nat → Prop) (ty : Nat → Nat) (σ : Nat → Nat → Int) (hok : sv_ok ty σ) (hTA : ∀ q, ty q ≠ 0 → A q) (hI : sv_inv sp_1 ty σ) (a : Nat) (k_a : ty a = 4) (b : Nat) (k_b : ty b = 7) : sv_M l yX4_exchange cX4_exchange 3 (some (.object "SaintsRoad$Calendar")) { frames := 0, cells := 0, slots := 0, locals := 0 } g A ty σ [sv_r a, sv_r b] (fun r σ' => (∃ rq : Nat, r = [sv_r rq] ∧ ty rq = 7) ∧ sv_inv sp_1 ty σ' ∧ sv_ofx [(4, 2), (4, 10)] [] ty σ σ') := by
  refine sv_enter (by decide) (Nat.le_of_ble_eq_true rfl) ?_
  intro p e s m args below meth c C hr
  have C : sv_C g A RX4 cX4_exchange 3 p s m args meth c := C
  have hr : meth.sig.returnType = (some (.object "SaintsRoad$Calendar")) := hr
  have hF : sv_ofx [(4, 2), (4, 10)] [] ty σ σ := sv_ofx.rf
  refine sv_same (st2 := []) (lv2 := [(0, sv_r a), (1, sv_r b)]) rfl rfl ?_
  refine sv_go C.1 C.2.1 [(.aload_n 0, 1)] (pc' := 1) (by decide +kernel) rfl (lv' := [(0, sv_r a), (1, sv_r b)]) (st' := [sv_r a]) rfl ?_
  obtain ⟨v1, ev1, kv1⟩ := hI.ref (k := 2) k_a rfl
  refine sv_gf C (index := 21) (ci := 3) (k := 2) (r := (RX4, TX4, 11)) (v := sv_r v1) (by decide +kernel) (by rw [k_a]; rfl) rfl (by decide) fl_X4_21 (congrArg sv_a ev1) ?_
  refine sv_go C.1 C.2.1 [(.astore_n 2, 1), (.aload_n 0, 1), (.aload_n 1, 1)] (pc' := 7) (by decide +kernel) rfl (lv' := [(0, sv_r a), (1, sv_r b), (2, sv_r v1)]) (st' := [sv_r b, sv_r a]) rfl ?_
  refine sv_pf C (index := 21) (ci := 3) (k := 2) (r := (RX4, TX4, 11)) (z := (b : Int) + 1) (by decide +kernel) (by rw [k_a]; rfl) rfl (by decide) rfl fl_X4_21 rfl (Or.inr (Or.inr (Or.inr (Or.inr (Or.inl ⟨_, rfl⟩))))) (show (0 : Int) ≤ _ by omega) (hTA _ (by rw [k_a]; decide)) hok (fun hok2 => ?_)
  have hI4 := hI.up (a := a) (k := 2) (z := (b : Int) + 1) (by rw [k_a]; exact Or.inr ⟨_, rfl, k_b⟩)
  have hF5 := hF.up (a := a) (k := 2) (z := (b : Int) + 1) (Or.inr (by rw [k_a]; decide))
  generalize eσ3 : sv_up σ a 2 ((b : Int) + 1) = σ3 at hok2 hI4 hF5 ⊢
  have t6 : σ3 a 2 = (b : Int) + 1 := by rw [← eσ3]; exact sv_up_s _ _ _ _
  refine sv_go C.1 C.2.1 [(.aload_n 0, 1), (.iconst 0, 1)] (pc' := 12) (by decide +kernel) rfl (lv' := [(0, sv_r a), (1, sv_r b), (2, sv_r v1)]) (st' := [sv_i 0, sv_r a]) rfl ?_
  refine sv_pf C (index := 37) (ci := 3) (k := 10) (r := (RX4, TX4, 11)) (z := 0) (by decide +kernel) (by rw [k_a]; rfl) rfl (by decide) rfl fl_X4_37 rfl (Or.inl rfl) ⟨by omega, by omega⟩ (hTA _ (by rw [k_a]; decide)) hok2 (fun hok7 => ?_)
  have hI9 := hI4.up (a := a) (k := 10) (z := 0) (by rw [k_a]; exact ⟨by omega, by omega⟩)
  have hF10 := hF5.up (a := a) (k := 10) (z := 0) (Or.inr (by rw [k_a]; decide))
  generalize eσ8 : sv_up σ3 a 10 0 = σ8 at hok7 hI9 hF10 ⊢
  have t11 : σ8 a 2 = (b : Int) + 1 := by rw [← eσ8, sv_up_k (by decide)]; exact t6
  have t12 : σ8 a 10 = 0 := by rw [← eσ8]; exact sv_up_s _ _ _ _
  refine sv_go C.1 C.2.1 [(.aload_n 2, 1)] (pc' := 16) (by decide +kernel) rfl (lv' := [(0, sv_r a), (1, sv_r b), (2, sv_r v1)]) (st' := [sv_r v1]) rfl ?_
  exact sv_aret C hr (Or.inl ⟨_, rfl⟩) (by decide +kernel) hok7 (⟨⟨v1, rfl, kv1⟩, hI9, hF10⟩)

theorem fl_X4_78 : Cond.fieldLink RX4 78 "SaintsRoad$Calendar" "feasts" "[LSaintsRoad$Feast;" ∈ lw_good := sv_mem 244 (by decide +kernel) rfl
theorem fl_X4_95 : Cond.fieldLink RX4 95 "SaintsRoad$Feast" "rank" "I" ∈ lw_good := sv_mem 200 (by decide +kernel) rfl
set_option maxHeartbeats 4000000 in
set_option maxRecDepth 100000 in
theorem sf_X4_isAbove (l : Launch) (g : sv_G) (A : Nat → Prop) (ty : Nat → Nat) (σ : Nat → Nat → Int) (hok : sv_ok ty σ) (hTA : ∀ q, ty q ≠ 0 → A q) (hI : sv_inv sp_1 ty σ) (a : Nat) (k_a : ty a = 4) (f : Int) (h_f : 0 ≤ f ∧ f ≤ 59) (g2 : Int) (h_g2 : 0 ≤ g2 ∧ g2 ≤ 59) : sv_M l yX4_isAbove cX4_isAbove 5 (some .boolean) { frames := 0, cells := 0, slots := 0, locals := 0 } g A ty σ [sv_r a, sv_i f, sv_i g2] (fun r σ' => σ = σ' ∧ ∃ rv : Int, r = [sv_i rv] ∧ (0 ≤ rv ∧ rv ≤ 1)) := by
  refine sv_enter (by decide) (Nat.le_of_ble_eq_true rfl) ?_
  intro p e s m args below meth c C hr
  have C : sv_C g A RX4 cX4_isAbove 5 p s m args meth c := C
  have hr : meth.sig.returnType = (some .boolean) := hr
  have hF : sv_ofx [] [] ty σ σ := sv_ofx.rf
  refine sv_same (st2 := []) (lv2 := [(0, sv_r a), (1, sv_i f), (2, sv_i g2)]) rfl rfl ?_
  refine sv_go C.1 C.2.1 [(.aload_n 0, 1)] (pc' := 1) (by decide +kernel) rfl (lv' := [(0, sv_r a), (1, sv_i f), (2, sv_i g2)]) (st' := [sv_r a]) rfl ?_
  obtain ⟨v1, ev1, kv1⟩ := hI.ref (k := 2) k_a rfl
  refine sv_gf C (index := 21) (ci := 3) (k := 2) (r := (RX4, TX4, 11)) (v := sv_r v1) (by decide +kernel) (by rw [k_a]; rfl) rfl (by decide) fl_X4_21 (congrArg sv_a ev1) ?_
  obtain ⟨v2, ev2, kv2⟩ := hI.ref (k := 0) kv1 rfl
  refine sv_gf C (index := 78) (ci := 1) (k := 0) (r := (RX1, TX1, 6)) (v := sv_r v2) (by decide +kernel) (by rw [kv1]; rfl) rfl (by decide) fl_X4_78 (congrArg sv_a ev2) ?_
  refine sv_go C.1 C.2.1 [(.iload_n 1, 1)] (pc' := 8) (by decide +kernel) rfl (lv' := [(0, sv_r a), (1, sv_i f), (2, sv_i g2)]) (st' := [sv_i f, sv_r v2]) rfl ?_
  refine sv_aa C (N := "SaintsRoad$Feast") (by decide) (n := 60) (by decide +kernel) (by rw [kv2]; rfl) (by decide) (by omega) (by omega) ?_
  obtain ⟨v3, ev3, kv3⟩ := hI.ref (k := (f : Int).toNat) kv2 (by first | rfl | (show (if _ then _ else _) = _; rw [if_pos (by omega)]))
  rw [ev3]
  obtain ⟨v4, ev4, hv4⟩ := sv_rdk hok (a := v3) (k := 7) (ci := 2) (r := (RX3, TX3, 12)) (by rw [kv3]; rfl) rfl (by decide) rfl
  refine sv_gf C (index := 95) (ci := 2) (k := 7) (r := (RX3, TX3, 12)) (v := sv_i v4) (by decide +kernel) (by rw [kv3]; rfl) rfl (by decide) fl_X4_95 (congrArg sv_i ev4) ?_
  refine sv_go C.1 C.2.1 [(.istore_n 3, 1), (.aload_n 0, 1)] (pc' := 14) (by decide +kernel) rfl (lv' := [(0, sv_r a), (1, sv_i f), (2, sv_i g2), (3, sv_i v4)]) (st' := [sv_r a]) rfl ?_
  refine sv_gf C (index := 21) (ci := 3) (k := 2) (r := (RX4, TX4, 11)) (v := sv_r v1) (by decide +kernel) (by rw [k_a]; rfl) rfl (by decide) fl_X4_21 (congrArg sv_a ev1) ?_
  refine sv_gf C (index := 78) (ci := 1) (k := 0) (r := (RX1, TX1, 6)) (v := sv_r v2) (by decide +kernel) (by rw [kv1]; rfl) rfl (by decide) fl_X4_78 (congrArg sv_a ev2) ?_
  refine sv_go C.1 C.2.1 [(.iload_n 2, 1)] (pc' := 21) (by decide +kernel) rfl (lv' := [(0, sv_r a), (1, sv_i f), (2, sv_i g2), (3, sv_i v4)]) (st' := [sv_i g2, sv_r v2]) rfl ?_
  refine sv_aa C (N := "SaintsRoad$Feast") (by decide) (n := 60) (by decide +kernel) (by rw [kv2]; rfl) (by decide) (by omega) (by omega) ?_
  obtain ⟨v5, ev5, kv5⟩ := hI.ref (k := (g2 : Int).toNat) kv2 (by first | rfl | (show (if _ then _ else _) = _; rw [if_pos (by omega)]))
  rw [ev5]
  obtain ⟨v6, ev6, hv6⟩ := sv_rdk hok (a := v5) (k := 7) (ci := 2) (r := (RX3, TX3, 12)) (by rw [kv5]; rfl) rfl (by decide) rfl
  refine sv_gf C (index := 95) (ci := 2) (k := 7) (r := (RX3, TX3, 12)) (v := sv_i v6) (by decide +kernel) (by rw [kv5]; rfl) rfl (by decide) fl_X4_95 (congrArg sv_i ev6) ?_
  refine sv_go C.1 C.2.1 [(.istore 4, 2), (.iload_n 3, 1), (.iload 4, 2)] (pc' := 30) (by decide +kernel) rfl (lv' := [(0, sv_r a), (1, sv_i f), (2, sv_i g2), (3, sv_i v4), (4, sv_i v6)]) (st' := [sv_i v6, sv_i v4]) rfl ?_
  refine sv_icmp C.1 C.2.1 (cnd := .lt) (off := 14) (tgt := 44) (by decide +kernel) (by decide) ⟨by omega, by omega⟩ ⟨by omega, by omega⟩ (fun (h7 : v4 < v6) => ?_) (fun (h7 : ¬ (v4 < v6)) => ?_)
  · refine sv_go C.1 C.2.1 [(.iconst 1, 1)] (pc' := 45) (by decide +kernel) rfl (lv' := [(0, sv_r a), (1, sv_i f), (2, sv_i g2), (3, sv_i v4), (4, sv_i v6)]) (st' := [sv_i 1]) rfl ?_
    refine sv_goto C.1 C.2.1 (off := 4) (tgt := 49) (by decide +kernel) (by decide) ?_
    exact sv_zret C hr (by omega) (by decide +kernel) hok (⟨rfl, ⟨_, rfl, ⟨by omega, by omega⟩⟩⟩)
  · refine sv_go C.1 C.2.1 [(.iload_n 3, 1), (.iload 4, 2)] (pc' := 36) (by decide +kernel) rfl (lv' := [(0, sv_r a), (1, sv_i f), (2, sv_i g2), (3, sv_i v4), (4, sv_i v6)]) (st' := [sv_i v6, sv_i v4]) rfl ?_
    refine sv_icmp C.1 C.2.1 (cnd := .ne) (off := 12) (tgt := 48) (by decide +kernel) (by decide) ⟨by omega, by omega⟩ ⟨by omega, by omega⟩ (fun (h8 : v4 ≠ v6) => ?_) (fun (h8 : ¬ (v4 ≠ v6)) => ?_)
    · refine sv_go C.1 C.2.1 [(.iconst 0, 1)] (pc' := 49) (by decide +kernel) rfl (lv' := [(0, sv_r a), (1, sv_i f), (2, sv_i g2), (3, sv_i v4), (4, sv_i v6)]) (st' := [sv_i 0]) rfl ?_
      exact sv_zret C hr (by omega) (by decide +kernel) hok (⟨rfl, ⟨_, rfl, ⟨by omega, by omega⟩⟩⟩)
    · refine sv_go C.1 C.2.1 [(.iload_n 1, 1), (.iload_n 2, 1)] (pc' := 41) (by decide +kernel) rfl (lv' := [(0, sv_r a), (1, sv_i f), (2, sv_i g2), (3, sv_i v4), (4, sv_i v6)]) (st' := [sv_i g2, sv_i f]) rfl ?_
      refine sv_icmp C.1 C.2.1 (cnd := .ge) (off := 7) (tgt := 48) (by decide +kernel) (by decide) ⟨by omega, by omega⟩ ⟨by omega, by omega⟩ (fun (h9 : g2 ≤ f) => ?_) (fun (h9 : ¬ (g2 ≤ f)) => ?_)
      · refine sv_go C.1 C.2.1 [(.iconst 0, 1)] (pc' := 49) (by decide +kernel) rfl (lv' := [(0, sv_r a), (1, sv_i f), (2, sv_i g2), (3, sv_i v4), (4, sv_i v6)]) (st' := [sv_i 0]) rfl ?_
        exact sv_zret C hr (by omega) (by decide +kernel) hok (⟨rfl, ⟨_, rfl, ⟨by omega, by omega⟩⟩⟩)
      · refine sv_go C.1 C.2.1 [(.iconst 1, 1)] (pc' := 45) (by decide +kernel) rfl (lv' := [(0, sv_r a), (1, sv_i f), (2, sv_i g2), (3, sv_i v4), (4, sv_i v6)]) (st' := [sv_i 1]) rfl ?_
        refine sv_goto C.1 C.2.1 (off := 4) (tgt := 49) (by decide +kernel) (by decide) ?_
        exact sv_zret C hr (by omega) (by decide +kernel) hok (⟨rfl, ⟨_, rfl, ⟨by omega, by omega⟩⟩⟩)

theorem fl_X4_102 : Cond.fieldLink RX4 102 "SaintsRoad$Calendar" "yieldRank" "I" ∈ lw_good := sv_mem 253 (by decide +kernel) rfl
theorem fl_X4_28 : Cond.fieldLink RX4 28 "SaintsRoad$Place" "timesMoved" "[I" ∈ lw_good := sv_mem 281 (by decide +kernel) rfl
theorem fl_X4_105 : Cond.fieldLink RX4 105 "SaintsRoad$Calendar" "yieldTimes" "I" ∈ lw_good := sv_mem 256 (by decide +kernel) rfl
set_option maxHeartbeats 4000000 in
set_option maxRecDepth 100000 in
theorem sf_X4_canYield (l : Launch) (g : sv_G) (A : Nat → Prop) (ty : Nat → Nat) (σ : Nat → Nat → Int) (hok : sv_ok ty σ) (hTA : ∀ q, ty q ≠ 0 → A q) (hI : sv_inv sp_1 ty σ) (a : Nat) (k_a : ty a = 4) (f : Int) (h_f : 0 ≤ f ∧ f ≤ 59) : sv_M l yX4_canYield cX4_canYield 2 (some .boolean) { frames := 0, cells := 0, slots := 0, locals := 0 } g A ty σ [sv_r a, sv_i f] (fun r σ' => σ = σ' ∧ ∃ rv : Int, r = [sv_i rv] ∧ (0 ≤ rv ∧ rv ≤ 1)) := by
  refine sv_enter (by decide) (Nat.le_of_ble_eq_true rfl) ?_
  intro p e s m args below meth c C hr
  have C : sv_C g A RX4 cX4_canYield 2 p s m args meth c := C
  have hr : meth.sig.returnType = (some .boolean) := hr
  have hF : sv_ofx [] [] ty σ σ := sv_ofx.rf
  refine sv_same (st2 := []) (lv2 := [(0, sv_r a), (1, sv_i f)]) rfl rfl ?_
  refine sv_go C.1 C.2.1 [(.aload_n 0, 1)] (pc' := 1) (by decide +kernel) rfl (lv' := [(0, sv_r a), (1, sv_i f)]) (st' := [sv_r a]) rfl ?_
  obtain ⟨v1, ev1, kv1⟩ := hI.ref (k := 2) k_a rfl
  refine sv_gf C (index := 21) (ci := 3) (k := 2) (r := (RX4, TX4, 11)) (v := sv_r v1) (by decide +kernel) (by rw [k_a]; rfl) rfl (by decide) fl_X4_21 (congrArg sv_a ev1) ?_
  obtain ⟨v2, ev2, kv2⟩ := hI.ref (k := 0) kv1 rfl
  refine sv_gf C (index := 78) (ci := 1) (k := 0) (r := (RX1, TX1, 6)) (v := sv_r v2) (by decide +kernel) (by rw [kv1]; rfl) rfl (by decide) fl_X4_78 (congrArg sv_a ev2) ?_
  refine sv_go C.1 C.2.1 [(.iload_n 1, 1)] (pc' := 8) (by decide +kernel) rfl (lv' := [(0, sv_r a), (1, sv_i f)]) (st' := [sv_i f, sv_r v2]) rfl ?_
  refine sv_aa C (N := "SaintsRoad$Feast") (by decide) (n := 60) (by decide +kernel) (by rw [kv2]; rfl) (by decide) (by omega) (by omega) ?_
  obtain ⟨v3, ev3, kv3⟩ := hI.ref (k := (f : Int).toNat) kv2 (by first | rfl | (show (if _ then _ else _) = _; rw [if_pos (by omega)]))
  rw [ev3]
  obtain ⟨v4, ev4, hv4⟩ := sv_rdk hok (a := v3) (k := 7) (ci := 2) (r := (RX3, TX3, 12)) (by rw [kv3]; rfl) rfl (by decide) rfl
  refine sv_gf C (index := 95) (ci := 2) (k := 7) (r := (RX3, TX3, 12)) (v := sv_i v4) (by decide +kernel) (by rw [kv3]; rfl) rfl (by decide) fl_X4_95 (congrArg sv_i ev4) ?_
  refine sv_go C.1 C.2.1 [(.aload_n 0, 1)] (pc' := 13) (by decide +kernel) rfl (lv' := [(0, sv_r a), (1, sv_i f)]) (st' := [sv_r a, sv_i v4]) rfl ?_
  refine sv_gf C (index := 21) (ci := 3) (k := 2) (r := (RX4, TX4, 11)) (v := sv_r v1) (by decide +kernel) (by rw [k_a]; rfl) rfl (by decide) fl_X4_21 (congrArg sv_a ev1) ?_
  obtain ⟨v5, ev5, hv5⟩ := sv_rdk hok (a := v1) (k := 3) (ci := 1) (r := (RX1, TX1, 6)) (by rw [kv1]; rfl) rfl (by decide) rfl
  refine sv_gf C (index := 102) (ci := 1) (k := 3) (r := (RX1, TX1, 6)) (v := sv_i v5) (by decide +kernel) (by rw [kv1]; rfl) rfl (by decide) fl_X4_102 (congrArg sv_i ev5) ?_
  refine sv_icmp C.1 C.2.1 (cnd := .gt) (off := 23) (tgt := 42) (by decide +kernel) (by decide) ⟨by omega, by omega⟩ ⟨by omega, by omega⟩ (fun (h6 : v5 < v4) => ?_) (fun (h6 : ¬ (v5 < v4)) => ?_)
  · refine sv_go C.1 C.2.1 [(.iconst 0, 1)] (pc' := 43) (by decide +kernel) rfl (lv' := [(0, sv_r a), (1, sv_i f)]) (st' := [sv_i 0]) rfl ?_
    exact sv_zret C hr (by omega) (by decide +kernel) hok (⟨rfl, ⟨_, rfl, ⟨by omega, by omega⟩⟩⟩)
  · refine sv_go C.1 C.2.1 [(.aload_n 0, 1)] (pc' := 23) (by decide +kernel) rfl (lv' := [(0, sv_r a), (1, sv_i f)]) (st' := [sv_r a]) rfl ?_
    obtain ⟨v7, ev7, kv7⟩ := hI.ref (k := 4) k_a rfl
    refine sv_gf C (index := 28) (ci := 3) (k := 4) (r := (RX4, TX4, 11)) (v := sv_r v7) (by decide +kernel) (by rw [k_a]; rfl) rfl (by decide) fl_X4_28 (congrArg sv_a ev7) ?_
    refine sv_go C.1 C.2.1 [(.iload_n 1, 1)] (pc' := 27) (by decide +kernel) rfl (lv' := [(0, sv_r a), (1, sv_i f)]) (st' := [sv_i f, sv_r v7]) rfl ?_
    refine sv_ia C (n := 60) (by decide +kernel) (by rw [kv7]; rfl) (by decide) (by omega) (by omega) ?_
    obtain ⟨v8, ev8, hv8⟩ := sv_rde hok (a := v7) (k := (f : Int).toNat) (n := 60) (by rw [kv7]; rfl) (by omega)
    rw [ev8]
    refine sv_go C.1 C.2.1 [(.aload_n 0, 1)] (pc' := 29) (by decide +kernel) rfl (lv' := [(0, sv_r a), (1, sv_i f)]) (st' := [sv_r a, sv_i v8]) rfl ?_
    refine sv_gf C (index := 21) (ci := 3) (k := 2) (r := (RX4, TX4, 11)) (v := sv_r v1) (by decide +kernel) (by rw [k_a]; rfl) rfl (by decide) fl_X4_21 (congrArg sv_a ev1) ?_
    obtain ⟨v9, ev9, hv9⟩ := sv_rdk hok (a := v1) (k := 4) (ci := 1) (r := (RX1, TX1, 6)) (by rw [kv1]; rfl) rfl (by decide) rfl
    refine sv_gf C (index := 105) (ci := 1) (k := 4) (r := (RX1, TX1, 6)) (v := sv_i v9) (by decide +kernel) (by rw [kv1]; rfl) rfl (by decide) fl_X4_105 (congrArg sv_i ev9) ?_
    refine sv_icmp C.1 C.2.1 (cnd := .ge) (off := 7) (tgt := 42) (by decide +kernel) (by decide) ⟨by omega, by omega⟩ ⟨by omega, by omega⟩ (fun (h10 : v9 ≤ v8) => ?_) (fun (h10 : ¬ (v9 ≤ v8)) => ?_)
    · refine sv_go C.1 C.2.1 [(.iconst 0, 1)] (pc' := 43) (by decide +kernel) rfl (lv' := [(0, sv_r a), (1, sv_i f)]) (st' := [sv_i 0]) rfl ?_
      exact sv_zret C hr (by omega) (by decide +kernel) hok (⟨rfl, ⟨_, rfl, ⟨by omega, by omega⟩⟩⟩)
    · refine sv_go C.1 C.2.1 [(.iconst 1, 1)] (pc' := 39) (by decide +kernel) rfl (lv' := [(0, sv_r a), (1, sv_i f)]) (st' := [sv_i 1]) rfl ?_
      refine sv_goto C.1 C.2.1 (off := 4) (tgt := 43) (by decide +kernel) (by decide) ?_
      exact sv_zret C hr (by omega) (by decide +kernel) hok (⟨rfl, ⟨_, rfl, ⟨by omega, by omega⟩⟩⟩)

theorem fl_X4_15 : Cond.fieldLink RX4 15 "SaintsRoad$Place" "heldOn" "[I" ∈ lw_good := sv_mem 276 (by decide +kernel) rfl
set_option maxHeartbeats 4000000 in
set_option maxRecDepth 100000 in
theorem sf_X4_feastHeldOn (l : Launch) (g : sv_G) (A : Nat → Prop) (ty : Nat → Nat) (σ : Nat → Nat → Int) (hok : sv_ok ty σ) (hTA : ∀ q, ty q ≠ 0 → A q) (hI : sv_inv sp_1 ty σ) (a : Nat) (k_a : ty a = 4) (d : Int) (h_d : (-2147483648) ≤ d ∧ d ≤ 2147483647) : sv_M l yX4_feastHeldOn cX4_feastHeldOn 2 (some (.object "SaintsRoad$Feast")) { frames := 0, cells := 0, slots := 0, locals := 0 } g A ty σ [sv_r a, sv_i d] (fun r σ' => σ = σ' ∧ ∃ rz : Int, r = [sv_a rz] ∧ (rz = 0 ∨ ∃ rq : Nat, rz = (rq : Int) + 1 ∧ ty rq = 8 ∧ 0 ≤ d ∧ d ≤ 365)) := by
  refine sv_enter (by decide) (Nat.le_of_ble_eq_true rfl) ?_
  intro p e s m args below meth c C hr
  have C : sv_C g A RX4 cX4_feastHeldOn 2 p s m args meth c := C
  have hr : meth.sig.returnType = (some (.object "SaintsRoad$Feast")) := hr
  have hF : sv_ofx [] [] ty σ σ := sv_ofx.rf
  refine sv_same (st2 := []) (lv2 := [(0, sv_r a), (1, sv_i d)]) rfl rfl ?_
  refine sv_go C.1 C.2.1 [(.iload_n 1, 1)] (pc' := 1) (by decide +kernel) rfl (lv' := [(0, sv_r a), (1, sv_i d)]) (st' := [sv_i d]) rfl ?_
  refine sv_if C.1 C.2.1 (cnd := .lt) (off := 19) (tgt := 20) (by decide +kernel) (by decide) ⟨by omega, by omega⟩ (fun (h1 : d < 0) => ?_) (fun (h1 : ¬ (d < 0)) => ?_)
  · refine sv_go C.1 C.2.1 [(.aconst_null, 1)] (pc' := 21) (by decide +kernel) rfl (lv' := [(0, sv_r a), (1, sv_i d)]) (st' := [sv_a 0]) rfl ?_
    exact sv_aret C hr (Or.inl ⟨_, rfl⟩) (by decide +kernel) hok (⟨rfl, ⟨_, rfl, Or.inl rfl⟩⟩)
  · refine sv_go C.1 C.2.1 [(.iload_n 1, 1), (.sipush 366, 3)] (pc' := 8) (by decide +kernel) rfl (lv' := [(0, sv_r a), (1, sv_i d)]) (st' := [sv_i 366, sv_i d]) rfl ?_
    refine sv_icmp C.1 C.2.1 (cnd := .ge) (off := 12) (tgt := 20) (by decide +kernel) (by decide) ⟨by omega, by omega⟩ ⟨by omega, by omega⟩ (fun (h2 : 366 ≤ d) => ?_) (fun (h2 : ¬ (366 ≤ d)) => ?_)
    · refine sv_go C.1 C.2.1 [(.aconst_null, 1)] (pc' := 21) (by decide +kernel) rfl (lv' := [(0, sv_r a), (1, sv_i d)]) (st' := [sv_a 0]) rfl ?_
      exact sv_aret C hr (Or.inl ⟨_, rfl⟩) (by decide +kernel) hok (⟨rfl, ⟨_, rfl, Or.inl rfl⟩⟩)
    · refine sv_go C.1 C.2.1 [(.aload_n 0, 1)] (pc' := 12) (by decide +kernel) rfl (lv' := [(0, sv_r a), (1, sv_i d)]) (st' := [sv_r a]) rfl ?_
      obtain ⟨v3, ev3, kv3⟩ := hI.ref (k := 1) k_a rfl
      refine sv_gf C (index := 15) (ci := 3) (k := 1) (r := (RX4, TX4, 11)) (v := sv_r v3) (by decide +kernel) (by rw [k_a]; rfl) rfl (by decide) fl_X4_15 (congrArg sv_a ev3) ?_
      refine sv_go C.1 C.2.1 [(.iload_n 1, 1)] (pc' := 16) (by decide +kernel) rfl (lv' := [(0, sv_r a), (1, sv_i d)]) (st' := [sv_i d, sv_r v3]) rfl ?_
      refine sv_ia C (n := 366) (by decide +kernel) (by rw [kv3]; rfl) (by decide) (by omega) (by omega) ?_
      obtain ⟨v4, ev4, hv4⟩ := sv_rdn hI (k := (d : Int).toNat) kv3 rfl
      rw [ev4]
      refine sv_if C.1 C.2.1 (cnd := .ge) (off := 5) (tgt := 22) (by decide +kernel) (by decide) ⟨by omega, by omega⟩ (fun (h5 : 0 ≤ v4) => ?_) (fun (h5 : ¬ (0 ≤ v4)) => ?_)
      · refine sv_go C.1 C.2.1 [(.aload_n 0, 1)] (pc' := 23) (by decide +kernel) rfl (lv' := [(0, sv_r a), (1, sv_i d)]) (st' := [sv_r a]) rfl ?_
        obtain ⟨v6, ev6, kv6⟩ := hI.ref (k := 2) k_a rfl
        refine sv_gf C (index := 21) (ci := 3) (k := 2) (r := (RX4, TX4, 11)) (v := sv_r v6) (by decide +kernel) (by rw [k_a]; rfl) rfl (by decide) fl_X4_21 (congrArg sv_a ev6) ?_
        obtain ⟨v7, ev7, kv7⟩ := hI.ref (k := 0) kv6 rfl
        refine sv_gf C (index := 78) (ci := 1) (k := 0) (r := (RX1, TX1, 6)) (v := sv_r v7) (by decide +kernel) (by rw [kv6]; rfl) rfl (by decide) fl_X4_78 (congrArg sv_a ev7) ?_
        refine sv_go C.1 C.2.1 [(.aload_n 0, 1)] (pc' := 30) (by decide +kernel) rfl (lv' := [(0, sv_r a), (1, sv_i d)]) (st' := [sv_r a, sv_r v7]) rfl ?_
        refine sv_gf C (index := 15) (ci := 3) (k := 1) (r := (RX4, TX4, 11)) (v := sv_r v3) (by decide +kernel) (by rw [k_a]; rfl) rfl (by decide) fl_X4_15 (congrArg sv_a ev3) ?_
        refine sv_go C.1 C.2.1 [(.iload_n 1, 1)] (pc' := 34) (by decide +kernel) rfl (lv' := [(0, sv_r a), (1, sv_i d)]) (st' := [sv_i d, sv_r v3, sv_r v7]) rfl ?_
        refine sv_ia C (n := 366) (by decide +kernel) (by rw [kv3]; rfl) (by decide) (by omega) (by omega) ?_
        rw [ev4]
        refine sv_aa C (N := "SaintsRoad$Feast") (by decide) (n := 60) (by decide +kernel) (by rw [kv7]; rfl) (by decide) (by omega) (by omega) ?_
        obtain ⟨v8, ev8, kv8⟩ := hI.ref (k := (v4 : Int).toNat) kv7 (by first | rfl | (show (if _ then _ else _) = _; rw [if_pos (by omega)]))
        rw [ev8]
        exact sv_aret C hr (Or.inl ⟨_, rfl⟩) (by decide +kernel) hok (⟨rfl, ⟨_, rfl, Or.inr ⟨v8, rfl, kv8, ⟨by omega, by omega⟩⟩⟩⟩)
      · refine sv_go C.1 C.2.1 [(.aconst_null, 1)] (pc' := 21) (by decide +kernel) rfl (lv' := [(0, sv_r a), (1, sv_i d)]) (st' := [sv_a 0]) rfl ?_
        exact sv_aret C hr (Or.inl ⟨_, rfl⟩) (by decide +kernel) hok (⟨rfl, ⟨_, rfl, Or.inl rfl⟩⟩)

theorem fl_X4_34 : Cond.fieldLink RX4 34 "SaintsRoad$Place" "waiting" "[I" ∈ lw_good := sv_mem 283 (by decide +kernel) rfl
theorem fl_X4_56 : Cond.fieldLink RX4 56 "SaintsRoad$Place" "waitingCount" "I" ∈ lw_good := sv_mem 286 (by decide +kernel) rfl
theorem ml_X4_91 : Cond.methodLink RX4 91 yX4_isAbove ∈ lw_good := sv_mem 724 (by decide +kernel) rfl
theorem co_X4_isAbove : Cond.code yX4_isAbove cX4_isAbove 5 (some .boolean) ∈ lw_good := sv_mem 727 (by decide +kernel) rfl
theorem in_X4 : Cond.initialized RX4 ∈ lw_good := sv_mem 75 (by decide +kernel) rfl
theorem im_X4_isAbove : Cond.instanceMethod yX4_isAbove ∈ lw_good := sv_mem 726 (by decide +kernel) rfl
theorem se_X4_isAbove : Cond.selects RX4 yX4_isAbove yX4_isAbove ∈ lw_good := sv_mem 24 (by decide +kernel) rfl
theorem fl_X4_9 : Cond.fieldLink RX4 9 "SaintsRoad$Place" "heldDay" "[I" ∈ lw_good := sv_mem 274 (by decide +kernel) rfl
set_option maxHeartbeats 4000000 in
set_option maxRecDepth 100000 in
theorem sf_X4_holdBest (l : Launch) (g : sv_G) (A : Nat → Prop) (ty : Nat → Nat) (σ : Nat → Nat → Int) (hok : sv_ok ty σ) (hTA : ∀ q, ty q ≠ 0 → A q) (hI : sv_inv sp_1 ty σ) (a : Nat) (k_a : ty a = 4) (d : Int) (h_d : 0 ≤ d ∧ d ≤ 365) : sv_M l yX4_holdBest cX4_holdBest 4 none { frames := 1, cells := 0, slots := 0, locals := 24 } g A ty σ [sv_r a, sv_i d] (fun r σ' => (r = []) ∧ sv_inv sp_1 ty σ' ∧ sv_ofx [] [24, 25] ty σ σ') := by
  refine sv_enter (by decide) (Nat.le_of_ble_eq_true rfl) ?_
  intro p e s m args below meth c C hr
  have C : sv_C g A RX4 cX4_holdBest 4 p s m args meth c := C
  have hr : meth.sig.returnType = none := hr
  have hF : sv_ofx [] [24, 25] ty σ σ := sv_ofx.rf
  refine sv_same (st2 := []) (lv2 := [(0, sv_r a), (1, sv_i d)]) rfl rfl ?_
  refine sv_go C.1 C.2.1 [(.aload_n 0, 1)] (pc' := 1) (by decide +kernel) rfl (lv' := [(0, sv_r a), (1, sv_i d)]) (st' := [sv_r a]) rfl ?_
  obtain ⟨v1, ev1, kv1⟩ := hI.ref (k := 6) k_a rfl
  refine sv_gf C (index := 34) (ci := 3) (k := 6) (r := (RX4, TX4, 11)) (v := sv_r v1) (by decide +kernel) (by rw [k_a]; rfl) rfl (by decide) fl_X4_34 (congrArg sv_a ev1) ?_
  refine sv_go C.1 C.2.1 [(.iconst 0, 1)] (pc' := 5) (by decide +kernel) rfl (lv' := [(0, sv_r a), (1, sv_i d)]) (st' := [sv_i 0, sv_r v1]) rfl ?_
  refine sv_ia C (n := 60) (by decide +kernel) (by rw [kv1]; rfl) (by decide) (by omega) (by omega) ?_
  obtain ⟨v2, ev2, hv2⟩ := sv_rdn hI (k := (0 : Int).toNat) kv1 rfl
  rw [ev2]
  refine sv_go C.1 C.2.1 [(.istore_n 2, 1), (.iconst 1, 1), (.istore_n 3, 1)] (pc' := 9) (by decide +kernel) rfl (lv' := [(0, sv_r a), (1, sv_i d), (2, sv_i v2), (3, sv_i 1)]) (st' := []) rfl ?_
  have L4 : ∀ (n : Nat) (Xg3_l2 : Int) (Xg3_l3 : Int), (0 ≤ Xg3_l2 ∧ Xg3_l2 ≤ 59) → (1 ≤ Xg3_l3 ∧ Xg3_l3 ≤ 60) → (60 - Xg3_l3) < (n : Int) → sv_E p l e { frames := 1, cells := 0, slots := 0, locals := 24 } s m args below meth c 4 g A ty (fun r σ' => (r = []) ∧ sv_inv sp_1 ty σ' ∧ sv_ofx [] [24, 25] ty σ σ') σ 9 [(0, sv_r a), (1, sv_i d), (2, sv_i Xg3_l2), (3, sv_i Xg3_l3)] [] := by
    intro n
    induction n with
    | zero => intro Xg3_l2 Xg3_l3 hXg3_l2 hXg3_l3 hmu; exact absurd hmu (by omega)
    | succ n ih5 =>
      intro Xg3_l2 Xg3_l3 hXg3_l2 hXg3_l3 hmu
      refine sv_go C.1 C.2.1 [(.iload_n 3, 1), (.aload_n 0, 1)] (pc' := 11) (by decide +kernel) rfl (lv' := [(0, sv_r a), (1, sv_i d), (2, sv_i Xg3_l2), (3, sv_i Xg3_l3)]) (st' := [sv_r a, sv_i Xg3_l3]) rfl ?_
      obtain ⟨v6, ev6, hv6⟩ := sv_rdn hI (k := 9) k_a rfl
      refine sv_gf C (index := 56) (ci := 3) (k := 9) (r := (RX4, TX4, 11)) (v := sv_i v6) (by decide +kernel) (by rw [k_a]; rfl) rfl (by decide) fl_X4_56 (congrArg sv_i ev6) ?_
      refine sv_icmp C.1 C.2.1 (cnd := .ge) (off := 30) (tgt := 44) (by decide +kernel) (by decide) ⟨by omega, by omega⟩ ⟨by omega, by omega⟩ (fun (h7 : v6 ≤ Xg3_l3) => ?_) (fun (h7 : ¬ (v6 ≤ Xg3_l3)) => ?_)
      · refine sv_go C.1 C.2.1 [(.aload_n 0, 1)] (pc' := 45) (by decide +kernel) rfl (lv' := [(0, sv_r a), (1, sv_i d), (2, sv_i Xg3_l2), (3, sv_i Xg3_l3)]) (st' := [sv_r a]) rfl ?_
        obtain ⟨v8, ev8, kv8⟩ := hI.ref (k := 1) k_a rfl
        refine sv_gf C (index := 15) (ci := 3) (k := 1) (r := (RX4, TX4, 11)) (v := sv_r v8) (by decide +kernel) (by rw [k_a]; rfl) rfl (by decide) fl_X4_15 (congrArg sv_a ev8) ?_
        refine sv_go C.1 C.2.1 [(.iload_n 1, 1), (.iload_n 2, 1)] (pc' := 50) (by decide +kernel) rfl (lv' := [(0, sv_r a), (1, sv_i d), (2, sv_i Xg3_l2), (3, sv_i Xg3_l3)]) (st' := [sv_i Xg3_l2, sv_i d, sv_r v8]) rfl ?_
        refine sv_is C (n := 366) (by decide +kernel) (by rw [kv8]; rfl) (by decide) (by omega) (by omega) ⟨by omega, by omega⟩ (hTA _ (by rw [kv8]; decide)) hok (fun hok9 => ?_)
        have hI11 := hI.up (a := v8) (k := (d : Int).toNat) (z := Xg3_l2) (by rw [kv8]; exact ⟨by omega, by omega⟩)
        have hF12 := hF.up (a := v8) (k := (d : Int).toNat) (z := Xg3_l2) (Or.inl (by rw [kv8]; decide))
        generalize eσ10 : sv_up σ v8 (d : Int).toNat Xg3_l2 = σ10 at hok9 hI11 hF12 ⊢
        have t13 : σ10 a 6 = (v1 : Int) + 1 := by rw [← eσ10, sv_up_a (sv_ne k_a kv8 (by decide))]; exact ev1
        have t14 : σ10 v1 (0 : Int).toNat = v2 := by rw [← eσ10, sv_up_a (sv_ne kv1 kv8 (by decide))]; exact ev2
        have t15 : σ10 a 9 = v6 := by rw [← eσ10, sv_up_a (sv_ne k_a kv8 (by decide))]; exact ev6
        have t16 : σ10 a 1 = (v8 : Int) + 1 := by rw [← eσ10, sv_up_a (sv_ne k_a kv8 (by decide))]; exact ev8
        have t17 : σ10 v8 (d : Int).toNat = Xg3_l2 := by rw [← eσ10]; exact sv_up_s _ _ _ _
        refine sv_go C.1 C.2.1 [(.aload_n 0, 1)] (pc' := 52) (by decide +kernel) rfl (lv' := [(0, sv_r a), (1, sv_i d), (2, sv_i Xg3_l2), (3, sv_i Xg3_l3)]) (st' := [sv_r a]) rfl ?_
        obtain ⟨v18, ev18, kv18⟩ := hI11.ref (k := 0) k_a rfl
        refine sv_gf C (index := 9) (ci := 3) (k := 0) (r := (RX4, TX4, 11)) (v := sv_r v18) (by decide +kernel) (by rw [k_a]; rfl) rfl (by decide) fl_X4_9 (congrArg sv_a ev18) ?_
        refine sv_go C.1 C.2.1 [(.iload_n 2, 1), (.iload_n 1, 1)] (pc' := 57) (by decide +kernel) rfl (lv' := [(0, sv_r a), (1, sv_i d), (2, sv_i Xg3_l2), (3, sv_i Xg3_l3)]) (st' := [sv_i d, sv_i Xg3_l2, sv_r v18]) rfl ?_
        refine sv_is C (n := 60) (by decide +kernel) (by rw [kv18]; rfl) (by decide) (by omega) (by omega) ⟨by omega, by omega⟩ (hTA _ (by rw [kv18]; decide)) hok9 (fun hok19 => ?_)
        have hI21 := hI11.up (a := v18) (k := (Xg3_l2 : Int).toNat) (z := d) (by rw [kv18]; exact trivial)
        have hF22 := hF12.up (a := v18) (k := (Xg3_l2 : Int).toNat) (z := d) (Or.inl (by rw [kv18]; decide))
        generalize eσ20 : sv_up σ10 v18 (Xg3_l2 : Int).toNat d = σ20 at hok19 hI21 hF22 ⊢
        have t23 : σ20 a 6 = (v1 : Int) + 1 := by rw [← eσ20, sv_up_a (sv_ne k_a kv18 (by decide))]; exact t13
        have t24 : σ20 v1 (0 : Int).toNat = v2 := by rw [← eσ20, sv_up_a (sv_ne kv1 kv18 (by decide))]; exact t14
        have t25 : σ20 a 9 = v6 := by rw [← eσ20, sv_up_a (sv_ne k_a kv18 (by decide))]; exact t15
        have t26 : σ20 a 1 = (v8 : Int) + 1 := by rw [← eσ20, sv_up_a (sv_ne k_a kv18 (by decide))]; exact t16
        have t27 : σ20 v8 (d : Int).toNat = Xg3_l2 := by rw [← eσ20, sv_up_a (sv_ne kv8 kv18 (by decide))]; exact t17
        have t28 : σ20 a 0 = (v18 : Int) + 1 := by rw [← eσ20, sv_up_a (sv_ne k_a kv18 (by decide))]; exact ev18
        have t29 : σ20 v18 (Xg3_l2 : Int).toNat = d := by rw [← eσ20]; exact sv_up_s _ _ _ _
        exact sv_vret C hr (by decide +kernel) hok19 (⟨rfl, hI21, hF22⟩)
      · refine sv_go C.1 C.2.1 [(.aload_n 0, 1), (.aload_n 0, 1)] (pc' := 19) (by decide +kernel) rfl (lv' := [(0, sv_r a), (1, sv_i d), (2, sv_i Xg3_l2), (3, sv_i Xg3_l3)]) (st' := [sv_r a, sv_r a]) rfl ?_
        refine sv_gf C (index := 34) (ci := 3) (k := 6) (r := (RX4, TX4, 11)) (v := sv_r v1) (by decide +kernel) (by rw [k_a]; rfl) rfl (by decide) fl_X4_34 (congrArg sv_a ev1) ?_
        refine sv_go C.1 C.2.1 [(.iload_n 3, 1)] (pc' := 23) (by decide +kernel) rfl (lv' := [(0, sv_r a), (1, sv_i d), (2, sv_i Xg3_l2), (3, sv_i Xg3_l3)]) (st' := [sv_i Xg3_l3, sv_r v1, sv_r a]) rfl ?_
        refine sv_ia C (n := 60) (by decide +kernel) (by rw [kv1]; rfl) (by decide) (by omega) (by omega) ?_
        obtain ⟨v30, ev30, hv30⟩ := sv_rdn hI (k := (Xg3_l3 : Int).toNat) kv1 rfl
        rw [ev30]
        refine sv_go C.1 C.2.1 [(.iload_n 2, 1)] (pc' := 25) (by decide +kernel) rfl (lv' := [(0, sv_r a), (1, sv_i d), (2, sv_i Xg3_l2), (3, sv_i Xg3_l3)]) (st' := [sv_i Xg3_l2, sv_i v30, sv_r a]) rfl ?_
        refine sv_cv C (index := 91) (k := 2) (rest := []) (ci := 3) (r := (RX4, TX4, 11)) (by decide +kernel) (sf_X4_isAbove l g A ty σ hok hTA hI a k_a (v30) ⟨by omega, by omega⟩ (Xg3_l2) ⟨by omega, by omega⟩) ⟨co_X4_isAbove, in_X4, ⟨by decide, by decide, by decide +kernel⟩, Nat.le_of_ble_eq_true rfl, Nat.le_of_ble_eq_true rfl⟩ ml_X4_91 im_X4_isAbove se_X4_isAbove (by rw [k_a]; rfl) rfl rfl rfl (Nat.le_of_ble_eq_true rfl) ⟨Nat.zero_le _, Nat.zero_le _⟩ (fun r32 σ33 hpo31 hok34 => ?_)
        obtain ⟨rfl, ⟨vu35, rfl, hvu35⟩⟩ := hpo31
        refine sv_same (st2 := [sv_i vu35]) (lv2 := [(0, sv_r a), (1, sv_i d), (2, sv_i Xg3_l2), (3, sv_i Xg3_l3)]) rfl rfl ?_
        have J38 : ∀ (Jg37_l2 : Int), (0 ≤ Jg37_l2 ∧ Jg37_l2 ≤ 59) → sv_E p l e { frames := 1, cells := 0, slots := 0, locals := 24 } s m args below meth c 4 g A ty (fun r σ' => (r = []) ∧ sv_inv sp_1 ty σ' ∧ sv_ofx [] [24, 25] ty σ σ') σ 38 [(0, sv_r a), (1, sv_i d), (2, sv_i Jg37_l2), (3, sv_i Xg3_l3)] [] := by
          intro Jg37_l2 hJg37_l2
          refine sv_go C.1 C.2.1 [(.iinc 3 1, 3)] (pc' := 41) (by decide +kernel) rfl (lv' := [(0, sv_r a), (1, sv_i d), (2, sv_i Jg37_l2), (3, sv_i (Xg3_l3 + 1))]) (st' := []) rfl ?_
          refine sv_goto C.1 C.2.1 (off := (-32)) (tgt := 9) (by decide +kernel) (by decide) ?_
          exact ih5 Jg37_l2 (Xg3_l3 + 1) ⟨by omega, by omega⟩ ⟨by omega, by omega⟩ (by omega)
        refine sv_if C.1 C.2.1 (cnd := .eq) (off := 10) (tgt := 38) (by decide +kernel) (by decide) ⟨by omega, by omega⟩ (fun (h36 : vu35 = 0) => ?_) (fun (h36 : ¬ (vu35 = 0)) => ?_)
        · exact J38 Xg3_l2 ⟨by omega, by omega⟩
        · refine sv_go C.1 C.2.1 [(.aload_n 0, 1)] (pc' := 32) (by decide +kernel) rfl (lv' := [(0, sv_r a), (1, sv_i d), (2, sv_i Xg3_l2), (3, sv_i Xg3_l3)]) (st' := [sv_r a]) rfl ?_
          refine sv_gf C (index := 34) (ci := 3) (k := 6) (r := (RX4, TX4, 11)) (v := sv_r v1) (by decide +kernel) (by rw [k_a]; rfl) rfl (by decide) fl_X4_34 (congrArg sv_a ev1) ?_
          refine sv_go C.1 C.2.1 [(.iload_n 3, 1)] (pc' := 36) (by decide +kernel) rfl (lv' := [(0, sv_r a), (1, sv_i d), (2, sv_i Xg3_l2), (3, sv_i Xg3_l3)]) (st' := [sv_i Xg3_l3, sv_r v1]) rfl ?_
          refine sv_ia C (n := 60) (by decide +kernel) (by rw [kv1]; rfl) (by decide) (by omega) (by omega) ?_
          rw [ev30]
          refine sv_go C.1 C.2.1 [(.istore_n 2, 1)] (pc' := 38) (by decide +kernel) rfl (lv' := [(0, sv_r a), (1, sv_i d), (2, sv_i v30), (3, sv_i Xg3_l3)]) (st' := []) rfl ?_
          exact J38 v30 ⟨by omega, by omega⟩
  exact L4 (((60 - 1 : Int)).toNat + 1) v2 1 ⟨by omega, by omega⟩ ⟨by omega, by omega⟩ (by omega)

theorem ml_X4_98 : Cond.methodLink RX4 98 yX4_canYield ∈ lw_good := sv_mem 732 (by decide +kernel) rfl
theorem co_X4_canYield : Cond.code yX4_canYield cX4_canYield 2 (some .boolean) ∈ lw_good := sv_mem 735 (by decide +kernel) rfl
theorem im_X4_canYield : Cond.instanceMethod yX4_canYield ∈ lw_good := sv_mem 734 (by decide +kernel) rfl
theorem se_X4_canYield : Cond.selects RX4 yX4_canYield yX4_canYield ∈ lw_good := sv_mem 26 (by decide +kernel) rfl
set_option maxHeartbeats 4000000 in
set_option maxRecDepth 100000 in
theorem sf_X4_moveOthersOn (l : Launch) (g : sv_G) (A : Nat → Prop) (ty : Nat → Nat) (σ : Nat → Nat → Int) (hok : sv_ok ty σ) (hTA : ∀ q, ty q ≠ 0 → A q) (hI : sv_inv sp_1 ty σ) (a : Nat) (k_a : ty a = 4) : sv_M l yX4_moveOthersOn cX4_moveOthersOn 4 none { frames := 1, cells := 0, slots := 0, locals := 21 } g A ty σ [sv_r a] (fun r σ' => (r = []) ∧ sv_inv sp_1 ty σ' ∧ sv_ofx [(4, 9)] [27, 29] ty σ σ' ∧ σ' a 9 ≤ σ a 9) := by
  refine sv_enter (by decide) (Nat.le_of_ble_eq_true rfl) ?_
  intro p e s m args below meth c C hr
  have C : sv_C g A RX4 cX4_moveOthersOn 4 p s m args meth c := C
  have hr : meth.sig.returnType = none := hr
  have hF : sv_ofx [(4, 9)] [27, 29] ty σ σ := sv_ofx.rf
  obtain ⟨ra9, era9, hra9⟩ := sv_rdn hI (k := 9) k_a rfl
  refine sv_same (st2 := []) (lv2 := [(0, sv_r a)]) rfl rfl ?_
  refine sv_go C.1 C.2.1 [(.iconst 0, 1), (.istore_n 1, 1), (.iconst 0, 1), (.istore_n 2, 1)] (pc' := 4) (by decide +kernel) rfl (lv' := [(0, sv_r a), (1, sv_i 0), (2, sv_i 0)]) (st' := []) rfl ?_
  have L3 : ∀ (n : Nat) (Xg1_l1 : Int) (Xg1_l2 : Int) (σ2 : Nat → Nat → Int), (0 ≤ Xg1_l1 ∧ Xg1_l1 ≤ 60) → (0 ≤ Xg1_l2 ∧ Xg1_l2 ≤ 60) → (sv_ok ty σ2) → (sv_inv sp_1 ty σ2) → (sv_ofx [(4, 9)] [27, 29] ty σ σ2) → (σ2 a 9 = ra9) → (Xg1_l1 ≤ Xg1_l2) → (Xg1_l2 ≤ ra9) → (60 - Xg1_l2) < (n : Int) → sv_E p l e { frames := 1, cells := 0, slots := 0, locals := 21 } s m args below meth c 4 g A ty (fun r σ' => (r = []) ∧ sv_inv sp_1 ty σ' ∧ sv_ofx [(4, 9)] [27, 29] ty σ σ' ∧ σ' a 9 ≤ σ a 9) σ2 4 [(0, sv_r a), (1, sv_i Xg1_l1), (2, sv_i Xg1_l2)] [] := by
    intro n
    induction n with
    | zero => intro Xg1_l1 Xg1_l2 σ2 hXg1_l1 hXg1_l2 okσ2 Iσ2 Fσ2 eσ2_0 hk hw hmu; exact absurd hmu (by omega)
    | succ n ih4 =>
      intro Xg1_l1 Xg1_l2 σ2 hXg1_l1 hXg1_l2 okσ2 Iσ2 Fσ2 eσ2_0 hk hw hmu
      refine sv_go C.1 C.2.1 [(.iload_n 2, 1), (.aload_n 0, 1)] (pc' := 6) (by decide +kernel) rfl (lv' := [(0, sv_r a), (1, sv_i Xg1_l1), (2, sv_i Xg1_l2)]) (st' := [sv_r a, sv_i Xg1_l2]) rfl ?_
      refine sv_gf C (index := 56) (ci := 3) (k := 9) (r := (RX4, TX4, 11)) (v := sv_i ra9) (by decide +kernel) (by rw [k_a]; rfl) rfl (by decide) fl_X4_56 (congrArg sv_i eσ2_0) ?_
      refine sv_icmp C.1 C.2.1 (cnd := .ge) (off := 53) (tgt := 62) (by decide +kernel) (by decide) ⟨by omega, by omega⟩ ⟨by omega, by omega⟩ (fun (h5 : ra9 ≤ Xg1_l2) => ?_) (fun (h5 : ¬ (ra9 ≤ Xg1_l2)) => ?_)
      · refine sv_go C.1 C.2.1 [(.aload_n 0, 1), (.iload_n 1, 1)] (pc' := 64) (by decide +kernel) rfl (lv' := [(0, sv_r a), (1, sv_i Xg1_l1), (2, sv_i Xg1_l2)]) (st' := [sv_i Xg1_l1, sv_r a]) rfl ?_
        refine sv_pf C (index := 56) (ci := 3) (k := 9) (r := (RX4, TX4, 11)) (z := Xg1_l1) (by decide +kernel) (by rw [k_a]; rfl) rfl (by decide) rfl fl_X4_56 rfl (Or.inl rfl) ⟨by omega, by omega⟩ (hTA _ (by rw [k_a]; decide)) okσ2 (fun hok6 => ?_)
        have hI8 := Iσ2.up (a := a) (k := 9) (z := Xg1_l1) (by rw [k_a]; exact ⟨by omega, by omega⟩)
        have hF9 := Fσ2.up (a := a) (k := 9) (z := Xg1_l1) (Or.inr (by rw [k_a]; decide))
        generalize eσ7 : sv_up σ2 a 9 Xg1_l1 = σ7 at hok6 hI8 hF9 ⊢
        have t10 : σ7 a 9 = Xg1_l1 := by rw [← eσ7]; exact sv_up_s _ _ _ _
        exact sv_vret C hr (by decide +kernel) hok6 (⟨rfl, hI8, hF9, by omega⟩)
      · refine sv_go C.1 C.2.1 [(.aload_n 0, 1)] (pc' := 13) (by decide +kernel) rfl (lv' := [(0, sv_r a), (1, sv_i Xg1_l1), (2, sv_i Xg1_l2)]) (st' := [sv_r a]) rfl ?_
        obtain ⟨v11, ev11, kv11⟩ := Iσ2.ref (k := 6) k_a rfl
        refine sv_gf C (index := 34) (ci := 3) (k := 6) (r := (RX4, TX4, 11)) (v := sv_r v11) (by decide +kernel) (by rw [k_a]; rfl) rfl (by decide) fl_X4_34 (congrArg sv_a ev11) ?_
        refine sv_go C.1 C.2.1 [(.iload_n 2, 1)] (pc' := 17) (by decide +kernel) rfl (lv' := [(0, sv_r a), (1, sv_i Xg1_l1), (2, sv_i Xg1_l2)]) (st' := [sv_i Xg1_l2, sv_r v11]) rfl ?_
        refine sv_ia C (n := 60) (by decide +kernel) (by rw [kv11]; rfl) (by decide) (by omega) (by omega) ?_
        obtain ⟨v12, ev12, hv12⟩ := sv_rdn Iσ2 (k := (Xg1_l2 : Int).toNat) kv11 rfl
        rw [ev12]
        refine sv_go C.1 C.2.1 [(.istore_n 3, 1), (.aload_n 0, 1)] (pc' := 20) (by decide +kernel) rfl (lv' := [(0, sv_r a), (1, sv_i Xg1_l1), (2, sv_i Xg1_l2), (3, sv_i v12)]) (st' := [sv_r a]) rfl ?_
        obtain ⟨v13, ev13, kv13⟩ := Iσ2.ref (k := 0) k_a rfl
        refine sv_gf C (index := 9) (ci := 3) (k := 0) (r := (RX4, TX4, 11)) (v := sv_r v13) (by decide +kernel) (by rw [k_a]; rfl) rfl (by decide) fl_X4_9 (congrArg sv_a ev13) ?_
        refine sv_go C.1 C.2.1 [(.iload_n 3, 1)] (pc' := 24) (by decide +kernel) rfl (lv' := [(0, sv_r a), (1, sv_i Xg1_l1), (2, sv_i Xg1_l2), (3, sv_i v12)]) (st' := [sv_i v12, sv_r v13]) rfl ?_
        refine sv_ia C (n := 60) (by decide +kernel) (by rw [kv13]; rfl) (by decide) (by omega) (by omega) ?_
        obtain ⟨v14, ev14, hv14⟩ := sv_rde okσ2 (a := v13) (k := (v12 : Int).toNat) (n := 60) (by rw [kv13]; rfl) (by omega)
        rw [ev14]
        have J18 : ∀ (Jg16_l1 : Int) (σ17 : Nat → Nat → Int), (0 ≤ Jg16_l1 ∧ Jg16_l1 ≤ 60) → (sv_ok ty σ17) → (sv_inv sp_1 ty σ17) → (sv_ofx [(4, 9)] [27, 29] ty σ σ17) → (σ17 a 9 = ra9) → (σ17 a 6 = (v11 : Int) + 1) → (σ17 a 0 = (v13 : Int) + 1) → (σ17 v13 (v12 : Int).toNat = v14) → (Jg16_l1 ≤ Xg1_l2 + 1) → sv_E p l e { frames := 1, cells := 0, slots := 0, locals := 21 } s m args below meth c 4 g A ty (fun r σ' => (r = []) ∧ sv_inv sp_1 ty σ' ∧ sv_ofx [(4, 9)] [27, 29] ty σ σ' ∧ σ' a 9 ≤ σ a 9) σ17 56 [(0, sv_r a), (1, sv_i Jg16_l1), (2, sv_i Xg1_l2)] [] := by
          intro Jg16_l1 σ17 hJg16_l1 okσ17 Iσ17 Fσ17 eσ17_0 eσ17_1 eσ17_2 eσ17_3 hk2
          refine sv_go C.1 C.2.1 [(.iinc 2 1, 3)] (pc' := 59) (by decide +kernel) rfl (lv' := [(0, sv_r a), (1, sv_i Jg16_l1), (2, sv_i (Xg1_l2 + 1))]) (st' := []) rfl ?_
          refine sv_goto C.1 C.2.1 (off := (-55)) (tgt := 4) (by decide +kernel) (by decide) ?_
          exact ih4 Jg16_l1 (Xg1_l2 + 1) σ17 ⟨by omega, by omega⟩ ⟨by omega, by omega⟩ okσ17 Iσ17 Fσ17 eσ17_0 (by omega) (by omega) (by omega)
        refine sv_if C.1 C.2.1 (cnd := .ge) (off := 31) (tgt := 56) (by decide +kernel) (by decide) ⟨by omega, by omega⟩ (fun (h15 : 0 ≤ v14) => ?_) (fun (h15 : ¬ (0 ≤ v14)) => ?_)
        · refine sv_pick [0, 1, 2] (lv2 := [(0, sv_r a), (1, sv_i Xg1_l1), (2, sv_i Xg1_l2)]) rfl ?_
          exact J18 Xg1_l1 σ2 ⟨by omega, by omega⟩ okσ2 Iσ2 Fσ2 eσ2_0 ev11 ev13 ev14 (by omega)
        · refine sv_go C.1 C.2.1 [(.aload_n 0, 1), (.iload_n 3, 1)] (pc' := 30) (by decide +kernel) rfl (lv' := [(0, sv_r a), (1, sv_i Xg1_l1), (2, sv_i Xg1_l2), (3, sv_i v12)]) (st' := [sv_i v12, sv_r a]) rfl ?_
          refine sv_cv C (index := 98) (k := 1) (rest := []) (ci := 3) (r := (RX4, TX4, 11)) (by decide +kernel) (sf_X4_canYield l g A ty σ2 okσ2 hTA Iσ2 a k_a (v12) ⟨by omega, by omega⟩) ⟨co_X4_canYield, in_X4, ⟨by decide, by decide, by decide +kernel⟩, Nat.le_of_ble_eq_true rfl, Nat.le_of_ble_eq_true rfl⟩ ml_X4_98 im_X4_canYield se_X4_canYield (by rw [k_a]; rfl) rfl rfl rfl (Nat.le_of_ble_eq_true rfl) ⟨Nat.zero_le _, Nat.zero_le _⟩ (fun r20 σ21 hpo19 hok22 => ?_)
          obtain ⟨rfl, ⟨vu23, rfl, hvu23⟩⟩ := hpo19
          refine sv_same (st2 := [sv_i vu23]) (lv2 := [(0, sv_r a), (1, sv_i Xg1_l1), (2, sv_i Xg1_l2), (3, sv_i v12)]) rfl rfl ?_
          refine sv_if C.1 C.2.1 (cnd := .eq) (off := 23) (tgt := 56) (by decide +kernel) (by decide) ⟨by omega, by omega⟩ (fun (h24 : vu23 = 0) => ?_) (fun (h24 : ¬ (vu23 = 0)) => ?_)
          · refine sv_pick [0, 1, 2] (lv2 := [(0, sv_r a), (1, sv_i Xg1_l1), (2, sv_i Xg1_l2)]) rfl ?_
            exact J18 Xg1_l1 σ2 ⟨by omega, by omega⟩ hok22 Iσ2 Fσ2 eσ2_0 ev11 ev13 ev14 (by omega)
          · refine sv_go C.1 C.2.1 [(.aload_n 0, 1)] (pc' := 37) (by decide +kernel) rfl (lv' := [(0, sv_r a), (1, sv_i Xg1_l1), (2, sv_i Xg1_l2), (3, sv_i v12)]) (st' := [sv_r a]) rfl ?_
            obtain ⟨v25, ev25, kv25⟩ := Iσ2.ref (k := 4) k_a rfl
            refine sv_gf C (index := 28) (ci := 3) (k := 4) (r := (RX4, TX4, 11)) (v := sv_r v25) (by decide +kernel) (by rw [k_a]; rfl) rfl (by decide) fl_X4_28 (congrArg sv_a ev25) ?_
            refine sv_go C.1 C.2.1 [(.iload_n 3, 1), (.dup2, 1)] (pc' := 42) (by decide +kernel) rfl (lv' := [(0, sv_r a), (1, sv_i Xg1_l1), (2, sv_i Xg1_l2), (3, sv_i v12)]) (st' := [sv_i v12, sv_r v25, sv_i v12, sv_r v25]) rfl ?_
            refine sv_ia C (n := 60) (by decide +kernel) (by rw [kv25]; rfl) (by decide) (by omega) (by omega) ?_
            obtain ⟨v26, ev26, hv26⟩ := sv_rde hok22 (a := v25) (k := (v12 : Int).toNat) (n := 60) (by rw [kv25]; rfl) (by omega)
            rw [ev26]
            refine sv_go C.1 C.2.1 [(.iconst 1, 1), (.iadd, 1)] (pc' := 45) (by decide +kernel) rfl (lv' := [(0, sv_r a), (1, sv_i Xg1_l1), (2, sv_i Xg1_l2), (3, sv_i v12)]) (st' := [sv_i (v26 + 1), sv_i v12, sv_r v25]) rfl ?_
            obtain ⟨w27, hw27, ew27⟩ := sv_wr (v26 + 1)
            refine sv_sameD (st2 := [sv_i w27, sv_i v12, sv_r v25]) (lv2 := [(0, sv_r a), (1, sv_i Xg1_l1), (2, sv_i Xg1_l2), (3, sv_i v12)]) (by simp only [List.map_cons, List.map_nil, sv_den_i, ew27]) rfl ?_
            refine sv_is C (n := 60) (by decide +kernel) (by rw [kv25]; rfl) (by decide) (by omega) (by omega) ⟨by omega, by omega⟩ (hTA _ (by rw [kv25]; decide)) hok22 (fun hok28 => ?_)
            have hI30 := Iσ2.up (a := v25) (k := (v12 : Int).toNat) (z := w27) (by rw [kv25]; exact trivial)
            have hF31 := Fσ2.up (a := v25) (k := (v12 : Int).toNat) (z := w27) (Or.inl (by rw [kv25]; decide))
            generalize eσ29 : sv_up σ2 v25 (v12 : Int).toNat w27 = σ29 at hok28 hI30 hF31 ⊢
            have t32 : σ29 a 9 = ra9 := by rw [← eσ29, sv_up_a (sv_ne k_a kv25 (by decide))]; exact eσ2_0
            have t33 : σ29 a 6 = (v11 : Int) + 1 := by rw [← eσ29, sv_up_a (sv_ne k_a kv25 (by decide))]; exact ev11
            have t34 : σ29 v11 (Xg1_l2 : Int).toNat = v12 := by rw [← eσ29, sv_up_a (sv_ne kv11 kv25 (by decide))]; exact ev12
            have t35 : σ29 a 0 = (v13 : Int) + 1 := by rw [← eσ29, sv_up_a (sv_ne k_a kv25 (by decide))]; exact ev13
            have t36 : σ29 v13 (v12 : Int).toNat = v14 := by rw [← eσ29, sv_up_a (sv_ne kv13 kv25 (by decide))]; exact ev14
            have t37 : σ29 a 4 = (v25 : Int) + 1 := by rw [← eσ29, sv_up_a (sv_ne k_a kv25 (by decide))]; exact ev25
            have t39 : σ29 v25 (v12 : Int).toNat = w27 := by rw [← eσ29]; exact sv_up_s _ _ _ _
            refine sv_go C.1 C.2.1 [(.aload_n 0, 1)] (pc' := 47) (by decide +kernel) rfl (lv' := [(0, sv_r a), (1, sv_i Xg1_l1), (2, sv_i Xg1_l2), (3, sv_i v12)]) (st' := [sv_r a]) rfl ?_
            refine sv_gf C (index := 34) (ci := 3) (k := 6) (r := (RX4, TX4, 11)) (v := sv_r v11) (by decide +kernel) (by rw [k_a]; rfl) rfl (by decide) fl_X4_34 (congrArg sv_a t33) ?_
            refine sv_go C.1 C.2.1 [(.iload_n 1, 1), (.iload_n 3, 1)] (pc' := 52) (by decide +kernel) rfl (lv' := [(0, sv_r a), (1, sv_i Xg1_l1), (2, sv_i Xg1_l2), (3, sv_i v12)]) (st' := [sv_i v12, sv_i Xg1_l1, sv_r v11]) rfl ?_
            refine sv_is C (n := 60) (by decide +kernel) (by rw [kv11]; rfl) (by decide) (by omega) (by omega) ⟨by omega, by omega⟩ (hTA _ (by rw [kv11]; decide)) hok28 (fun hok40 => ?_)
            have hI42 := hI30.up (a := v11) (k := (Xg1_l1 : Int).toNat) (z := v12) (by rw [kv11]; exact ⟨by omega, by omega⟩)
            have hF43 := hF31.up (a := v11) (k := (Xg1_l1 : Int).toNat) (z := v12) (Or.inl (by rw [kv11]; decide))
            generalize eσ41 : sv_up σ29 v11 (Xg1_l1 : Int).toNat v12 = σ41 at hok40 hI42 hF43 ⊢
            have t44 : σ41 a 9 = ra9 := by rw [← eσ41, sv_up_a (sv_ne k_a kv11 (by decide))]; exact t32
            have t45 : σ41 a 6 = (v11 : Int) + 1 := by rw [← eσ41, sv_up_a (sv_ne k_a kv11 (by decide))]; exact t33
            have t47 : σ41 a 0 = (v13 : Int) + 1 := by rw [← eσ41, sv_up_a (sv_ne k_a kv11 (by decide))]; exact t35
            have t48 : σ41 v13 (v12 : Int).toNat = v14 := by rw [← eσ41, sv_up_a (sv_ne kv13 kv11 (by decide))]; exact t36
            have t49 : σ41 a 4 = (v25 : Int) + 1 := by rw [← eσ41, sv_up_a (sv_ne k_a kv11 (by decide))]; exact t37
            have t50 : σ41 v25 (v12 : Int).toNat = w27 := by rw [← eσ41, sv_up_a (sv_ne kv25 kv11 (by decide))]; exact t39
            have t51 : σ41 v11 (Xg1_l1 : Int).toNat = v12 := by rw [← eσ41]; exact sv_up_s _ _ _ _
            refine sv_go C.1 C.2.1 [(.iinc 1 1, 3)] (pc' := 56) (by decide +kernel) rfl (lv' := [(0, sv_r a), (1, sv_i (Xg1_l1 + 1)), (2, sv_i Xg1_l2), (3, sv_i v12)]) (st' := []) rfl ?_
            refine sv_pick [0, 1, 2] (lv2 := [(0, sv_r a), (1, sv_i (Xg1_l1 + 1)), (2, sv_i Xg1_l2)]) rfl ?_
            exact J18 (Xg1_l1 + 1) σ41 ⟨by omega, by omega⟩ hok40 hI42 hF43 t44 t45 t47 t48 (by omega)
  exact L3 (((60 - 0 : Int)).toNat + 1) 0 0 σ ⟨by omega, by omega⟩ ⟨by omega, by omega⟩ hok hI hF era9 (by omega) (by omega) (by omega)

theorem fl_X4_66 : Cond.fieldLink RX4 66 "SaintsRoad$Place" "inYear" "I" ∈ lw_good := sv_mem 284 (by decide +kernel) rfl
theorem fl_X4_25 : Cond.fieldLink RX4 25 "SaintsRoad$Place" "ownDay" "[I" ∈ lw_good := sv_mem 280 (by decide +kernel) rfl
theorem fl_X4_31 : Cond.fieldLink RX4 31 "SaintsRoad$Place" "byOwnDay" "[I" ∈ lw_good := sv_mem 282 (by decide +kernel) rfl
set_option maxHeartbeats 4000000 in
set_option maxRecDepth 100000 in
theorem sf_X4_insertByOwnDay (l : Launch) (g : sv_G) (A : Nat → Prop) (ty : Nat → Nat) (σ : Nat → Nat → Int) (hok : sv_ok ty σ) (hTA : ∀ q, ty q ≠ 0 → A q) (hI : sv_inv sp_1 ty σ) (a : Nat) (k_a : ty a = 4) (f : Int) (h_f : 0 ≤ f ∧ f ≤ 59) (n7 : Int) (h_n7 : 0 ≤ n7 ∧ n7 ≤ 59) (hn7 : σ a 7 = n7) : sv_M l yX4_insertByOwnDay cX4_insertByOwnDay 3 none { frames := 0, cells := 0, slots := 0, locals := 0 } g A ty σ [sv_r a, sv_i f] (fun r σ' => (r = []) ∧ sv_inv sp_1 ty σ' ∧ sv_ofx [(4, 7)] [28] ty σ σ' ∧ σ' a 7 = n7 + 1) := by
  refine sv_enter (by decide) (Nat.le_of_ble_eq_true rfl) ?_
  intro p e s m args below meth c C hr
  have C : sv_C g A RX4 cX4_insertByOwnDay 3 p s m args meth c := C
  have hr : meth.sig.returnType = none := hr
  have hF : sv_ofx [(4, 7)] [28] ty σ σ := sv_ofx.rf
  refine sv_same (st2 := []) (lv2 := [(0, sv_r a), (1, sv_i f)]) rfl rfl ?_
  refine sv_go C.1 C.2.1 [(.aload_n 0, 1)] (pc' := 1) (by decide +kernel) rfl (lv' := [(0, sv_r a), (1, sv_i f)]) (st' := [sv_r a]) rfl ?_
  refine sv_gf C (index := 66) (ci := 3) (k := 7) (r := (RX4, TX4, 11)) (v := sv_i n7) (by decide +kernel) (by rw [k_a]; rfl) rfl (by decide) fl_X4_66 (congrArg sv_i hn7) ?_
  refine sv_go C.1 C.2.1 [(.istore_n 2, 1)] (pc' := 5) (by decide +kernel) rfl (lv' := [(0, sv_r a), (1, sv_i f), (2, sv_i n7)]) (st' := []) rfl ?_
  have J3 : ∀ (Yg1_l2 : Int) (σ2 : Nat → Nat → Int), (0 ≤ Yg1_l2 ∧ Yg1_l2 ≤ 59) → (sv_ok ty σ2) → (sv_inv sp_1 ty σ2) → (sv_ofx [(4, 7)] [28] ty σ σ2) → (σ2 a 7 = n7) → sv_E p l e { frames := 0, cells := 0, slots := 0, locals := 0 } s m args below meth c 3 g A ty (fun r σ' => (r = []) ∧ sv_inv sp_1 ty σ' ∧ sv_ofx [(4, 7)] [28] ty σ σ' ∧ σ' a 7 = n7 + 1) σ2 51 [(0, sv_r a), (1, sv_i f), (2, sv_i Yg1_l2)] [] := by
    intro Yg1_l2 σ2 hYg1_l2 okσ2 Iσ2 Fσ2 eσ2_0
    refine sv_go C.1 C.2.1 [(.aload_n 0, 1)] (pc' := 52) (by decide +kernel) rfl (lv' := [(0, sv_r a), (1, sv_i f), (2, sv_i Yg1_l2)]) (st' := [sv_r a]) rfl ?_
    obtain ⟨v4, ev4, kv4⟩ := Iσ2.ref (k := 5) k_a rfl
    refine sv_gf C (index := 31) (ci := 3) (k := 5) (r := (RX4, TX4, 11)) (v := sv_r v4) (by decide +kernel) (by rw [k_a]; rfl) rfl (by decide) fl_X4_31 (congrArg sv_a ev4) ?_
    refine sv_go C.1 C.2.1 [(.iload_n 2, 1), (.iload_n 1, 1)] (pc' := 57) (by decide +kernel) rfl (lv' := [(0, sv_r a), (1, sv_i f), (2, sv_i Yg1_l2)]) (st' := [sv_i f, sv_i Yg1_l2, sv_r v4]) rfl ?_
    refine sv_is C (n := 60) (by decide +kernel) (by rw [kv4]; rfl) (by decide) (by omega) (by omega) ⟨by omega, by omega⟩ (hTA _ (by rw [kv4]; decide)) okσ2 (fun hok5 => ?_)
    have hI7 := Iσ2.up (a := v4) (k := (Yg1_l2 : Int).toNat) (z := f) (by rw [kv4]; exact ⟨by omega, by omega⟩)
    have hF8 := Fσ2.up (a := v4) (k := (Yg1_l2 : Int).toNat) (z := f) (Or.inl (by rw [kv4]; decide))
    generalize eσ6 : sv_up σ2 v4 (Yg1_l2 : Int).toNat f = σ6 at hok5 hI7 hF8 ⊢
    have t9 : σ6 a 7 = n7 := by rw [← eσ6, sv_up_a (sv_ne k_a kv4 (by decide))]; exact eσ2_0
    have t10 : σ6 a 5 = (v4 : Int) + 1 := by rw [← eσ6, sv_up_a (sv_ne k_a kv4 (by decide))]; exact ev4
    have t11 : σ6 v4 (Yg1_l2 : Int).toNat = f := by rw [← eσ6]; exact sv_up_s _ _ _ _
    refine sv_go C.1 C.2.1 [(.aload_n 0, 1), (.dup, 1)] (pc' := 60) (by decide +kernel) rfl (lv' := [(0, sv_r a), (1, sv_i f), (2, sv_i Yg1_l2)]) (st' := [sv_r a, sv_r a]) rfl ?_
    refine sv_gf C (index := 66) (ci := 3) (k := 7) (r := (RX4, TX4, 11)) (v := sv_i n7) (by decide +kernel) (by rw [k_a]; rfl) rfl (by decide) fl_X4_66 (congrArg sv_i t9) ?_
    refine sv_go C.1 C.2.1 [(.iconst 1, 1), (.iadd, 1)] (pc' := 65) (by decide +kernel) rfl (lv' := [(0, sv_r a), (1, sv_i f), (2, sv_i Yg1_l2)]) (st' := [sv_i (n7 + 1), sv_r a]) rfl ?_
    refine sv_pf C (index := 66) (ci := 3) (k := 7) (r := (RX4, TX4, 11)) (z := n7 + 1) (by decide +kernel) (by rw [k_a]; rfl) rfl (by decide) rfl fl_X4_66 rfl (Or.inl rfl) ⟨by omega, by omega⟩ (hTA _ (by rw [k_a]; decide)) hok5 (fun hok12 => ?_)
    have hI14 := hI7.up (a := a) (k := 7) (z := n7 + 1) (by rw [k_a]; exact ⟨by omega, by omega⟩)
    have hF15 := hF8.up (a := a) (k := 7) (z := n7 + 1) (Or.inr (by rw [k_a]; decide))
    generalize eσ13 : sv_up σ6 a 7 (n7 + 1) = σ13 at hok12 hI14 hF15 ⊢
    have t16 : σ13 a 5 = (v4 : Int) + 1 := by rw [← eσ13, sv_up_k (by decide)]; exact t10
    have t17 : σ13 v4 (Yg1_l2 : Int).toNat = f := by rw [← eσ13, sv_up_a (sv_ne kv4 k_a (by decide))]; exact t11
    have t18 : σ13 a 7 = n7 + 1 := by rw [← eσ13]; exact sv_up_s _ _ _ _
    exact sv_vret C hr (by decide +kernel) hok12 (⟨rfl, hI14, hF15, by rw [t18]⟩)
  have L21 : ∀ (n : Nat) (Xg19_l2 : Int) (σ20 : Nat → Nat → Int), (0 ≤ Xg19_l2 ∧ Xg19_l2 ≤ 59) → (sv_ok ty σ20) → (sv_inv sp_1 ty σ20) → (sv_ofx [(4, 7)] [28] ty σ σ20) → (σ20 a 7 = n7) → (Xg19_l2 - 0) < (n : Int) → sv_E p l e { frames := 0, cells := 0, slots := 0, locals := 0 } s m args below meth c 3 g A ty (fun r σ' => (r = []) ∧ sv_inv sp_1 ty σ' ∧ sv_ofx [(4, 7)] [28] ty σ σ' ∧ σ' a 7 = n7 + 1) σ20 5 [(0, sv_r a), (1, sv_i f), (2, sv_i Xg19_l2)] [] := by
    intro n
    induction n with
    | zero => intro Xg19_l2 σ20 hXg19_l2 okσ20 Iσ20 Fσ20 eσ20_0 hmu; exact absurd hmu (by omega)
    | succ n ih22 =>
      intro Xg19_l2 σ20 hXg19_l2 okσ20 Iσ20 Fσ20 eσ20_0 hmu
      refine sv_go C.1 C.2.1 [(.iload_n 2, 1)] (pc' := 6) (by decide +kernel) rfl (lv' := [(0, sv_r a), (1, sv_i f), (2, sv_i Xg19_l2)]) (st' := [sv_i Xg19_l2]) rfl ?_
      refine sv_if C.1 C.2.1 (cnd := .le) (off := 45) (tgt := 51) (by decide +kernel) (by decide) ⟨by omega, by omega⟩ (fun (h23 : Xg19_l2 ≤ 0) => ?_) (fun (h23 : ¬ (Xg19_l2 ≤ 0)) => ?_)
      · exact J3 Xg19_l2 σ20 ⟨by omega, by omega⟩ okσ20 Iσ20 Fσ20 eσ20_0
      · refine sv_go C.1 C.2.1 [(.aload_n 0, 1)] (pc' := 10) (by decide +kernel) rfl (lv' := [(0, sv_r a), (1, sv_i f), (2, sv_i Xg19_l2)]) (st' := [sv_r a]) rfl ?_
        obtain ⟨v24, ev24, kv24⟩ := Iσ20.ref (k := 3) k_a rfl
        refine sv_gf C (index := 25) (ci := 3) (k := 3) (r := (RX4, TX4, 11)) (v := sv_r v24) (by decide +kernel) (by rw [k_a]; rfl) rfl (by decide) fl_X4_25 (congrArg sv_a ev24) ?_
        refine sv_go C.1 C.2.1 [(.aload_n 0, 1)] (pc' := 14) (by decide +kernel) rfl (lv' := [(0, sv_r a), (1, sv_i f), (2, sv_i Xg19_l2)]) (st' := [sv_r a, sv_r v24]) rfl ?_
        obtain ⟨v25, ev25, kv25⟩ := Iσ20.ref (k := 5) k_a rfl
        refine sv_gf C (index := 31) (ci := 3) (k := 5) (r := (RX4, TX4, 11)) (v := sv_r v25) (by decide +kernel) (by rw [k_a]; rfl) rfl (by decide) fl_X4_31 (congrArg sv_a ev25) ?_
        refine sv_go C.1 C.2.1 [(.iload_n 2, 1), (.iconst 1, 1), (.isub, 1)] (pc' := 20) (by decide +kernel) rfl (lv' := [(0, sv_r a), (1, sv_i f), (2, sv_i Xg19_l2)]) (st' := [sv_i (Xg19_l2 - 1), sv_r v25, sv_r v24]) rfl ?_
        refine sv_ia C (n := 60) (by decide +kernel) (by rw [kv25]; rfl) (by decide) (by omega) (by omega) ?_
        obtain ⟨v26, ev26, hv26⟩ := sv_rdn Iσ20 (k := (Xg19_l2 - 1 : Int).toNat) kv25 rfl
        rw [ev26]
        refine sv_ia C (n := 60) (by decide +kernel) (by rw [kv24]; rfl) (by decide) (by omega) (by omega) ?_
        obtain ⟨v27, ev27, hv27⟩ := sv_rde okσ20 (a := v24) (k := (v26 : Int).toNat) (n := 60) (by rw [kv24]; rfl) (by omega)
        rw [ev27]
        refine sv_go C.1 C.2.1 [(.aload_n 0, 1)] (pc' := 23) (by decide +kernel) rfl (lv' := [(0, sv_r a), (1, sv_i f), (2, sv_i Xg19_l2)]) (st' := [sv_r a, sv_i v27]) rfl ?_
        refine sv_gf C (index := 25) (ci := 3) (k := 3) (r := (RX4, TX4, 11)) (v := sv_r v24) (by decide +kernel) (by rw [k_a]; rfl) rfl (by decide) fl_X4_25 (congrArg sv_a ev24) ?_
        refine sv_go C.1 C.2.1 [(.iload_n 1, 1)] (pc' := 27) (by decide +kernel) rfl (lv' := [(0, sv_r a), (1, sv_i f), (2, sv_i Xg19_l2)]) (st' := [sv_i f, sv_r v24, sv_i v27]) rfl ?_
        refine sv_ia C (n := 60) (by decide +kernel) (by rw [kv24]; rfl) (by decide) (by omega) (by omega) ?_
        obtain ⟨v28, ev28, hv28⟩ := sv_rde okσ20 (a := v24) (k := (f : Int).toNat) (n := 60) (by rw [kv24]; rfl) (by omega)
        rw [ev28]
        refine sv_icmp C.1 C.2.1 (cnd := .le) (off := 23) (tgt := 51) (by decide +kernel) (by decide) ⟨by omega, by omega⟩ ⟨by omega, by omega⟩ (fun (h29 : v27 ≤ v28) => ?_) (fun (h29 : ¬ (v27 ≤ v28)) => ?_)
        · exact J3 Xg19_l2 σ20 ⟨by omega, by omega⟩ okσ20 Iσ20 Fσ20 eσ20_0
        · refine sv_go C.1 C.2.1 [(.aload_n 0, 1)] (pc' := 32) (by decide +kernel) rfl (lv' := [(0, sv_r a), (1, sv_i f), (2, sv_i Xg19_l2)]) (st' := [sv_r a]) rfl ?_
          refine sv_gf C (index := 31) (ci := 3) (k := 5) (r := (RX4, TX4, 11)) (v := sv_r v25) (by decide +kernel) (by rw [k_a]; rfl) rfl (by decide) fl_X4_31 (congrArg sv_a ev25) ?_
          refine sv_go C.1 C.2.1 [(.iload_n 2, 1), (.aload_n 0, 1)] (pc' := 37) (by decide +kernel) rfl (lv' := [(0, sv_r a), (1, sv_i f), (2, sv_i Xg19_l2)]) (st' := [sv_r a, sv_i Xg19_l2, sv_r v25]) rfl ?_
          refine sv_gf C (index := 31) (ci := 3) (k := 5) (r := (RX4, TX4, 11)) (v := sv_r v25) (by decide +kernel) (by rw [k_a]; rfl) rfl (by decide) fl_X4_31 (congrArg sv_a ev25) ?_
          refine sv_go C.1 C.2.1 [(.iload_n 2, 1), (.iconst 1, 1), (.isub, 1)] (pc' := 43) (by decide +kernel) rfl (lv' := [(0, sv_r a), (1, sv_i f), (2, sv_i Xg19_l2)]) (st' := [sv_i (Xg19_l2 - 1), sv_r v25, sv_i Xg19_l2, sv_r v25]) rfl ?_
          refine sv_ia C (n := 60) (by decide +kernel) (by rw [kv25]; rfl) (by decide) (by omega) (by omega) ?_
          rw [ev26]
          refine sv_is C (n := 60) (by decide +kernel) (by rw [kv25]; rfl) (by decide) (by omega) (by omega) ⟨by omega, by omega⟩ (hTA _ (by rw [kv25]; decide)) okσ20 (fun hok30 => ?_)
          have hI32 := Iσ20.up (a := v25) (k := (Xg19_l2 : Int).toNat) (z := v26) (by rw [kv25]; exact ⟨by omega, by omega⟩)
          have hF33 := Fσ20.up (a := v25) (k := (Xg19_l2 : Int).toNat) (z := v26) (Or.inl (by rw [kv25]; decide))
          generalize eσ31 : sv_up σ20 v25 (Xg19_l2 : Int).toNat v26 = σ31 at hok30 hI32 hF33 ⊢
          have t34 : σ31 a 7 = n7 := by rw [← eσ31, sv_up_a (sv_ne k_a kv25 (by decide))]; exact eσ20_0
          have t35 : σ31 a 3 = (v24 : Int) + 1 := by rw [← eσ31, sv_up_a (sv_ne k_a kv25 (by decide))]; exact ev24
          have t36 : σ31 a 5 = (v25 : Int) + 1 := by rw [← eσ31, sv_up_a (sv_ne k_a kv25 (by decide))]; exact ev25
          have t38 : σ31 v24 (v26 : Int).toNat = v27 := by rw [← eσ31, sv_up_a (sv_ne kv24 kv25 (by decide))]; exact ev27
          have t39 : σ31 v24 (f : Int).toNat = v28 := by rw [← eσ31, sv_up_a (sv_ne kv24 kv25 (by decide))]; exact ev28
          have t40 : σ31 v25 (Xg19_l2 : Int).toNat = v26 := by rw [← eσ31]; exact sv_up_s _ _ _ _
          refine sv_go C.1 C.2.1 [(.iinc 2 (-1), 3)] (pc' := 48) (by decide +kernel) rfl (lv' := [(0, sv_r a), (1, sv_i f), (2, sv_i (Xg19_l2 + (-1)))]) (st' := []) rfl ?_
          refine sv_goto C.1 C.2.1 (off := (-43)) (tgt := 5) (by decide +kernel) (by decide) ?_
          exact ih22 (Xg19_l2 + (-1)) σ31 ⟨by omega, by omega⟩ hok30 hI32 hF33 t34 (by omega)
  exact L21 (((n7 - 0 : Int)).toNat + 1) n7 σ ⟨by omega, by omega⟩ hok hI hF hn7 (by omega)

theorem fl_X4_75 : Cond.fieldLink RX4 75 "SaintsRoad$Calendar" "size" "I" ∈ lw_good := sv_mem 249 (by decide +kernel) rfl
theorem fl_X4_47 : Cond.fieldLink RX4 47 "SaintsRoad$Place" "easterDay" "I" ∈ lw_good := sv_mem 285 (by decide +kernel) rfl
theorem ml_X4_82 : Cond.methodLink RX4 82 yX3_ownDayIn ∈ lw_good := sv_mem 697 (by decide +kernel) rfl
theorem co_X3_ownDayIn : Cond.code yX3_ownDayIn cX3_ownDayIn 3 (some .int) ∈ lw_good := sv_mem 700 (by decide +kernel) rfl
theorem im_X3_ownDayIn : Cond.instanceMethod yX3_ownDayIn ∈ lw_good := sv_mem 698 (by decide +kernel) rfl
theorem se_X3_ownDayIn : Cond.selects RX3 yX3_ownDayIn yX3_ownDayIn ∈ lw_good := sv_mem 699 (by decide +kernel) rfl
theorem ml_X4_88 : Cond.methodLink RX4 88 yX4_insertByOwnDay ∈ lw_good := sv_mem 715 (by decide +kernel) rfl
theorem co_X4_insertByOwnDay : Cond.code yX4_insertByOwnDay cX4_insertByOwnDay 3 none ∈ lw_good := sv_mem 718 (by decide +kernel) rfl
theorem im_X4_insertByOwnDay : Cond.instanceMethod yX4_insertByOwnDay ∈ lw_good := sv_mem 717 (by decide +kernel) rfl
theorem se_X4_insertByOwnDay : Cond.selects RX4 yX4_insertByOwnDay yX4_insertByOwnDay ∈ lw_good := sv_mem 22 (by decide +kernel) rfl
set_option maxHeartbeats 4000000 in
set_option maxRecDepth 100000 in
theorem sf_X4_sortByOwnDay (l : Launch) (g : sv_G) (A : Nat → Prop) (ty : Nat → Nat) (σ : Nat → Nat → Int) (hok : sv_ok ty σ) (hTA : ∀ q, ty q ≠ 0 → A q) (hI : sv_inv sp_1 ty σ) (a : Nat) (k_a : ty a = 4) (y : Int) (h_y : 1 ≤ y ∧ y ≤ 2000) : sv_M l yX4_sortByOwnDay cX4_sortByOwnDay 3 none { frames := 4, cells := 0, slots := 0, locals := 88 } g A ty σ [sv_r a, sv_i y] (fun r σ' => (r = []) ∧ sv_inv sp_1 ty σ' ∧ sv_ofx [(4, 7)] [24, 26, 27, 28] ty σ σ') := by
  refine sv_enter (by decide) (Nat.le_of_ble_eq_true rfl) ?_
  intro p e s m args below meth c C hr
  have C : sv_C g A RX4 cX4_sortByOwnDay 3 p s m args meth c := C
  have hr : meth.sig.returnType = none := hr
  have hF : sv_ofx [(4, 7)] [24, 26, 27, 28] ty σ σ := sv_ofx.rf
  refine sv_same (st2 := []) (lv2 := [(0, sv_r a), (1, sv_i y)]) rfl rfl ?_
  refine sv_go C.1 C.2.1 [(.aload_n 0, 1), (.iconst 0, 1)] (pc' := 2) (by decide +kernel) rfl (lv' := [(0, sv_r a), (1, sv_i y)]) (st' := [sv_i 0, sv_r a]) rfl ?_
  refine sv_pf C (index := 66) (ci := 3) (k := 7) (r := (RX4, TX4, 11)) (z := 0) (by decide +kernel) (by rw [k_a]; rfl) rfl (by decide) rfl fl_X4_66 rfl (Or.inl rfl) ⟨by omega, by omega⟩ (hTA _ (by rw [k_a]; decide)) hok (fun hok1 => ?_)
  have hI3 := hI.up (a := a) (k := 7) (z := 0) (by rw [k_a]; exact ⟨by omega, by omega⟩)
  have hF4 := hF.up (a := a) (k := 7) (z := 0) (Or.inr (by rw [k_a]; decide))
  generalize eσ2 : sv_up σ a 7 0 = σ2 at hok1 hI3 hF4 ⊢
  have t5 : σ2 a 7 = 0 := by rw [← eσ2]; exact sv_up_s _ _ _ _
  refine sv_go C.1 C.2.1 [(.iconst 0, 1), (.istore_n 2, 1)] (pc' := 7) (by decide +kernel) rfl (lv' := [(0, sv_r a), (1, sv_i y), (2, sv_i 0)]) (st' := []) rfl ?_
  have L8 : ∀ (n : Nat) (Xg6_l2 : Int) (Xg6_fa_7 : Int) (σ7 : Nat → Nat → Int), (0 ≤ Xg6_l2 ∧ Xg6_l2 ≤ 60) → (0 ≤ Xg6_fa_7 ∧ Xg6_fa_7 ≤ 60) → (sv_ok ty σ7) → (sv_inv sp_1 ty σ7) → (sv_ofx [(4, 7)] [24, 26, 27, 28] ty σ σ7) → (σ7 a 7 = Xg6_fa_7) → (Xg6_fa_7 ≤ Xg6_l2) → (60 - Xg6_l2) < (n : Int) → sv_E p l e { frames := 4, cells := 0, slots := 0, locals := 88 } s m args below meth c 3 g A ty (fun r σ' => (r = []) ∧ sv_inv sp_1 ty σ' ∧ sv_ofx [(4, 7)] [24, 26, 27, 28] ty σ σ') σ7 7 [(0, sv_r a), (1, sv_i y), (2, sv_i Xg6_l2)] [] := by
    intro n
    induction n with
    | zero => intro Xg6_l2 Xg6_fa_7 σ7 hXg6_l2 hXg6_fa_7 okσ7 Iσ7 Fσ7 eσ7_0 hs7 hmu; exact absurd hmu (by omega)
    | succ n ih9 =>
      intro Xg6_l2 Xg6_fa_7 σ7 hXg6_l2 hXg6_fa_7 okσ7 Iσ7 Fσ7 eσ7_0 hs7 hmu
      refine sv_go C.1 C.2.1 [(.iload_n 2, 1), (.aload_n 0, 1)] (pc' := 9) (by decide +kernel) rfl (lv' := [(0, sv_r a), (1, sv_i y), (2, sv_i Xg6_l2)]) (st' := [sv_r a, sv_i Xg6_l2]) rfl ?_
      obtain ⟨v10, ev10, kv10⟩ := Iσ7.ref (k := 2) k_a rfl
      refine sv_gf C (index := 21) (ci := 3) (k := 2) (r := (RX4, TX4, 11)) (v := sv_r v10) (by decide +kernel) (by rw [k_a]; rfl) rfl (by decide) fl_X4_21 (congrArg sv_a ev10) ?_
      obtain ⟨v11, ev11, hv11⟩ := sv_rdn Iσ7 (k := 2) kv10 rfl
      refine sv_gf C (index := 75) (ci := 1) (k := 2) (r := (RX1, TX1, 6)) (v := sv_i v11) (by decide +kernel) (by rw [kv10]; rfl) rfl (by decide) fl_X4_75 (congrArg sv_i ev11) ?_
      refine sv_icmp C.1 C.2.1 (cnd := .ge) (off := 74) (tgt := 89) (by decide +kernel) (by decide) ⟨by omega, by omega⟩ ⟨by omega, by omega⟩ (fun (h12 : v11 ≤ Xg6_l2) => ?_) (fun (h12 : ¬ (v11 ≤ Xg6_l2)) => ?_)
      · exact sv_vret C hr (by decide +kernel) okσ7 (⟨rfl, Iσ7, Fσ7⟩)
      · refine sv_go C.1 C.2.1 [(.aload_n 0, 1)] (pc' := 19) (by decide +kernel) rfl (lv' := [(0, sv_r a), (1, sv_i y), (2, sv_i Xg6_l2)]) (st' := [sv_r a]) rfl ?_
        obtain ⟨v13, ev13, kv13⟩ := Iσ7.ref (k := 3) k_a rfl
        refine sv_gf C (index := 25) (ci := 3) (k := 3) (r := (RX4, TX4, 11)) (v := sv_r v13) (by decide +kernel) (by rw [k_a]; rfl) rfl (by decide) fl_X4_25 (congrArg sv_a ev13) ?_
        refine sv_go C.1 C.2.1 [(.iload_n 2, 1), (.aload_n 0, 1)] (pc' := 24) (by decide +kernel) rfl (lv' := [(0, sv_r a), (1, sv_i y), (2, sv_i Xg6_l2)]) (st' := [sv_r a, sv_i Xg6_l2, sv_r v13]) rfl ?_
        refine sv_gf C (index := 21) (ci := 3) (k := 2) (r := (RX4, TX4, 11)) (v := sv_r v10) (by decide +kernel) (by rw [k_a]; rfl) rfl (by decide) fl_X4_21 (congrArg sv_a ev10) ?_
        obtain ⟨v14, ev14, kv14⟩ := Iσ7.ref (k := 0) kv10 rfl
        refine sv_gf C (index := 78) (ci := 1) (k := 0) (r := (RX1, TX1, 6)) (v := sv_r v14) (by decide +kernel) (by rw [kv10]; rfl) rfl (by decide) fl_X4_78 (congrArg sv_a ev14) ?_
        refine sv_go C.1 C.2.1 [(.iload_n 2, 1)] (pc' := 31) (by decide +kernel) rfl (lv' := [(0, sv_r a), (1, sv_i y), (2, sv_i Xg6_l2)]) (st' := [sv_i Xg6_l2, sv_r v14, sv_i Xg6_l2, sv_r v13]) rfl ?_
        refine sv_aa C (N := "SaintsRoad$Feast") (by decide) (n := 60) (by decide +kernel) (by rw [kv14]; rfl) (by decide) (by omega) (by omega) ?_
        obtain ⟨v15, ev15, kv15⟩ := Iσ7.ref (k := (Xg6_l2 : Int).toNat) kv14 (by first | rfl | (show (if _ then _ else _) = _; rw [if_pos (by omega)]))
        rw [ev15]
        refine sv_go C.1 C.2.1 [(.iload_n 1, 1), (.aload_n 0, 1)] (pc' := 34) (by decide +kernel) rfl (lv' := [(0, sv_r a), (1, sv_i y), (2, sv_i Xg6_l2)]) (st' := [sv_r a, sv_i y, sv_r v15, sv_i Xg6_l2, sv_r v13]) rfl ?_
        obtain ⟨v16, ev16, hv16⟩ := sv_rdn Iσ7 (k := 8) k_a rfl
        refine sv_gf C (index := 47) (ci := 3) (k := 8) (r := (RX4, TX4, 11)) (v := sv_i v16) (by decide +kernel) (by rw [k_a]; rfl) rfl (by decide) fl_X4_47 (congrArg sv_i ev16) ?_
        refine sv_cv C (index := 82) (k := 2) (rest := [sv_i Xg6_l2, sv_r v13]) (ci := 2) (r := (RX3, TX3, 12)) (by decide +kernel) (sf_X3_ownDayIn l g A ty σ7 okσ7 hTA Iσ7 v15 kv15 (y) ⟨by omega, by omega⟩ (v16) ⟨by omega, by omega⟩) ⟨co_X3_ownDayIn, in_X3, ⟨by decide, by decide, by decide +kernel⟩, Nat.le_of_ble_eq_true rfl, Nat.le_of_ble_eq_true rfl⟩ ml_X4_82 im_X3_ownDayIn se_X3_ownDayIn (by rw [kv15]; rfl) rfl rfl rfl (Nat.le_of_ble_eq_true rfl) ⟨Nat.zero_le _, Nat.zero_le _⟩ (fun r18 σ19 hpo17 hok20 => ?_)
        obtain ⟨rfl, ⟨vu21, rfl, hvu21⟩⟩ := hpo17
        refine sv_same (st2 := [sv_i vu21, sv_i Xg6_l2, sv_r v13]) (lv2 := [(0, sv_r a), (1, sv_i y), (2, sv_i Xg6_l2)]) rfl rfl ?_
        refine sv_is C (n := 60) (by decide +kernel) (by rw [kv13]; rfl) (by decide) (by omega) (by omega) ⟨by omega, by omega⟩ (hTA _ (by rw [kv13]; decide)) hok20 (fun hok22 => ?_)
        have hI24 := Iσ7.up (a := v13) (k := (Xg6_l2 : Int).toNat) (z := vu21) (by rw [kv13]; exact trivial)
        have hF25 := Fσ7.up (a := v13) (k := (Xg6_l2 : Int).toNat) (z := vu21) (Or.inl (by rw [kv13]; decide))
        generalize eσ23 : sv_up σ7 v13 (Xg6_l2 : Int).toNat vu21 = σ23 at hok22 hI24 hF25 ⊢
        have t26 : σ23 a 7 = Xg6_fa_7 := by rw [← eσ23, sv_up_a (sv_ne k_a kv13 (by decide))]; exact eσ7_0
        have t27 : σ23 a 2 = (v10 : Int) + 1 := by rw [← eσ23, sv_up_a (sv_ne k_a kv13 (by decide))]; exact ev10
        have t28 : σ23 v10 2 = v11 := by rw [← eσ23, sv_up_a (sv_ne kv10 kv13 (by decide))]; exact ev11
        have t29 : σ23 a 3 = (v13 : Int) + 1 := by rw [← eσ23, sv_up_a (sv_ne k_a kv13 (by decide))]; exact ev13
        have t30 : σ23 v10 0 = (v14 : Int) + 1 := by rw [← eσ23, sv_up_a (sv_ne kv10 kv13 (by decide))]; exact ev14
        have t31 : σ23 v14 (Xg6_l2 : Int).toNat = (v15 : Int) + 1 := by rw [← eσ23, sv_up_a (sv_ne kv14 kv13 (by decide))]; exact ev15
        have t32 : σ23 a 8 = v16 := by rw [← eσ23, sv_up_a (sv_ne k_a kv13 (by decide))]; exact ev16
        have t33 : σ23 v13 (Xg6_l2 : Int).toNat = vu21 := by rw [← eσ23]; exact sv_up_s _ _ _ _
        refine sv_go C.1 C.2.1 [(.aload_n 0, 1)] (pc' := 42) (by decide +kernel) rfl (lv' := [(0, sv_r a), (1, sv_i y), (2, sv_i Xg6_l2)]) (st' := [sv_r a]) rfl ?_
        obtain ⟨v34, ev34, kv34⟩ := hI24.ref (k := 0) k_a rfl
        refine sv_gf C (index := 9) (ci := 3) (k := 0) (r := (RX4, TX4, 11)) (v := sv_r v34) (by decide +kernel) (by rw [k_a]; rfl) rfl (by decide) fl_X4_9 (congrArg sv_a ev34) ?_
        refine sv_go C.1 C.2.1 [(.iload_n 2, 1), (.aload_n 0, 1)] (pc' := 47) (by decide +kernel) rfl (lv' := [(0, sv_r a), (1, sv_i y), (2, sv_i Xg6_l2)]) (st' := [sv_r a, sv_i Xg6_l2, sv_r v34]) rfl ?_
        refine sv_gf C (index := 25) (ci := 3) (k := 3) (r := (RX4, TX4, 11)) (v := sv_r v13) (by decide +kernel) (by rw [k_a]; rfl) rfl (by decide) fl_X4_25 (congrArg sv_a t29) ?_
        refine sv_go C.1 C.2.1 [(.iload_n 2, 1)] (pc' := 51) (by decide +kernel) rfl (lv' := [(0, sv_r a), (1, sv_i y), (2, sv_i Xg6_l2)]) (st' := [sv_i Xg6_l2, sv_r v13, sv_i Xg6_l2, sv_r v34]) rfl ?_
        refine sv_ia C (n := 60) (by decide +kernel) (by rw [kv13]; rfl) (by decide) (by omega) (by omega) ?_
        rw [t33]
        have J37 : ∀ (Jg36_s0 : Int), ((-10) ≤ Jg36_s0 ∧ Jg36_s0 ≤ (-1)) → sv_E p l e { frames := 4, cells := 0, slots := 0, locals := 88 } s m args below meth c 3 g A ty (fun r σ' => (r = []) ∧ sv_inv sp_1 ty σ' ∧ sv_ofx [(4, 7)] [24, 26, 27, 28] ty σ σ') σ23 61 [(0, sv_r a), (1, sv_i y), (2, sv_i Xg6_l2)] [sv_i Jg36_s0, sv_i Xg6_l2, sv_r v34] := by
          intro Jg36_s0 hJg36_s0
          refine sv_is C (n := 60) (by decide +kernel) (by rw [kv34]; rfl) (by decide) (by omega) (by omega) ⟨by omega, by omega⟩ (hTA _ (by rw [kv34]; decide)) hok22 (fun hok38 => ?_)
          have hI40 := hI24.up (a := v34) (k := (Xg6_l2 : Int).toNat) (z := Jg36_s0) (by rw [kv34]; exact trivial)
          have hF41 := hF25.up (a := v34) (k := (Xg6_l2 : Int).toNat) (z := Jg36_s0) (Or.inl (by rw [kv34]; decide))
          generalize eσ39 : sv_up σ23 v34 (Xg6_l2 : Int).toNat Jg36_s0 = σ39 at hok38 hI40 hF41 ⊢
          have t42 : σ39 a 7 = Xg6_fa_7 := by rw [← eσ39, sv_up_a (sv_ne k_a kv34 (by decide))]; exact t26
          have t43 : σ39 a 2 = (v10 : Int) + 1 := by rw [← eσ39, sv_up_a (sv_ne k_a kv34 (by decide))]; exact t27
          have t44 : σ39 v10 2 = v11 := by rw [← eσ39, sv_up_a (sv_ne kv10 kv34 (by decide))]; exact t28
          have t45 : σ39 a 3 = (v13 : Int) + 1 := by rw [← eσ39, sv_up_a (sv_ne k_a kv34 (by decide))]; exact t29
          have t46 : σ39 v10 0 = (v14 : Int) + 1 := by rw [← eσ39, sv_up_a (sv_ne kv10 kv34 (by decide))]; exact t30
          have t47 : σ39 v14 (Xg6_l2 : Int).toNat = (v15 : Int) + 1 := by rw [← eσ39, sv_up_a (sv_ne kv14 kv34 (by decide))]; exact t31
          have t48 : σ39 a 8 = v16 := by rw [← eσ39, sv_up_a (sv_ne k_a kv34 (by decide))]; exact t32
          have t49 : σ39 v13 (Xg6_l2 : Int).toNat = vu21 := by rw [← eσ39, sv_up_a (sv_ne kv13 kv34 (by decide))]; exact t33
          have t50 : σ39 a 0 = (v34 : Int) + 1 := by rw [← eσ39, sv_up_a (sv_ne k_a kv34 (by decide))]; exact ev34
          have t51 : σ39 v34 (Xg6_l2 : Int).toNat = Jg36_s0 := by rw [← eσ39]; exact sv_up_s _ _ _ _
          refine sv_go C.1 C.2.1 [(.aload_n 0, 1)] (pc' := 63) (by decide +kernel) rfl (lv' := [(0, sv_r a), (1, sv_i y), (2, sv_i Xg6_l2)]) (st' := [sv_r a]) rfl ?_
          obtain ⟨v52, ev52, kv52⟩ := hI40.ref (k := 4) k_a rfl
          refine sv_gf C (index := 28) (ci := 3) (k := 4) (r := (RX4, TX4, 11)) (v := sv_r v52) (by decide +kernel) (by rw [k_a]; rfl) rfl (by decide) fl_X4_28 (congrArg sv_a ev52) ?_
          refine sv_go C.1 C.2.1 [(.iload_n 2, 1), (.iconst 0, 1)] (pc' := 68) (by decide +kernel) rfl (lv' := [(0, sv_r a), (1, sv_i y), (2, sv_i Xg6_l2)]) (st' := [sv_i 0, sv_i Xg6_l2, sv_r v52]) rfl ?_
          refine sv_is C (n := 60) (by decide +kernel) (by rw [kv52]; rfl) (by decide) (by omega) (by omega) ⟨by omega, by omega⟩ (hTA _ (by rw [kv52]; decide)) hok38 (fun hok53 => ?_)
          have hI55 := hI40.up (a := v52) (k := (Xg6_l2 : Int).toNat) (z := 0) (by rw [kv52]; exact trivial)
          have hF56 := hF41.up (a := v52) (k := (Xg6_l2 : Int).toNat) (z := 0) (Or.inl (by rw [kv52]; decide))
          generalize eσ54 : sv_up σ39 v52 (Xg6_l2 : Int).toNat 0 = σ54 at hok53 hI55 hF56 ⊢
          have t57 : σ54 a 7 = Xg6_fa_7 := by rw [← eσ54, sv_up_a (sv_ne k_a kv52 (by decide))]; exact t42
          have t58 : σ54 a 2 = (v10 : Int) + 1 := by rw [← eσ54, sv_up_a (sv_ne k_a kv52 (by decide))]; exact t43
          have t59 : σ54 v10 2 = v11 := by rw [← eσ54, sv_up_a (sv_ne kv10 kv52 (by decide))]; exact t44
          have t60 : σ54 a 3 = (v13 : Int) + 1 := by rw [← eσ54, sv_up_a (sv_ne k_a kv52 (by decide))]; exact t45
          have t61 : σ54 v10 0 = (v14 : Int) + 1 := by rw [← eσ54, sv_up_a (sv_ne kv10 kv52 (by decide))]; exact t46
          have t62 : σ54 v14 (Xg6_l2 : Int).toNat = (v15 : Int) + 1 := by rw [← eσ54, sv_up_a (sv_ne kv14 kv52 (by decide))]; exact t47
          have t63 : σ54 a 8 = v16 := by rw [← eσ54, sv_up_a (sv_ne k_a kv52 (by decide))]; exact t48
          have t64 : σ54 v13 (Xg6_l2 : Int).toNat = vu21 := by rw [← eσ54, sv_up_a (sv_ne kv13 kv52 (by decide))]; exact t49
          have t65 : σ54 a 0 = (v34 : Int) + 1 := by rw [← eσ54, sv_up_a (sv_ne k_a kv52 (by decide))]; exact t50
          have t66 : σ54 v34 (Xg6_l2 : Int).toNat = Jg36_s0 := by rw [← eσ54, sv_up_a (sv_ne kv34 kv52 (by decide))]; exact t51
          have t67 : σ54 a 4 = (v52 : Int) + 1 := by rw [← eσ54, sv_up_a (sv_ne k_a kv52 (by decide))]; exact ev52
          have t68 : σ54 v52 (Xg6_l2 : Int).toNat = 0 := by rw [← eσ54]; exact sv_up_s _ _ _ _
          refine sv_go C.1 C.2.1 [(.aload_n 0, 1)] (pc' := 70) (by decide +kernel) rfl (lv' := [(0, sv_r a), (1, sv_i y), (2, sv_i Xg6_l2)]) (st' := [sv_r a]) rfl ?_
          refine sv_gf C (index := 25) (ci := 3) (k := 3) (r := (RX4, TX4, 11)) (v := sv_r v13) (by decide +kernel) (by rw [k_a]; rfl) rfl (by decide) fl_X4_25 (congrArg sv_a t60) ?_
          refine sv_go C.1 C.2.1 [(.iload_n 2, 1)] (pc' := 74) (by decide +kernel) rfl (lv' := [(0, sv_r a), (1, sv_i y), (2, sv_i Xg6_l2)]) (st' := [sv_i Xg6_l2, sv_r v13]) rfl ?_
          refine sv_ia C (n := 60) (by decide +kernel) (by rw [kv13]; rfl) (by decide) (by omega) (by omega) ?_
          rw [t64]
          have J72 : ∀ (Jg70_fa_7 : Int) (σ71 : Nat → Nat → Int), (0 ≤ Jg70_fa_7 ∧ Jg70_fa_7 ≤ 60) → (sv_ok ty σ71) → (sv_inv sp_1 ty σ71) → (sv_ofx [(4, 7)] [24, 26, 27, 28] ty σ σ71) → (σ71 a 7 = Jg70_fa_7) → (σ71 a 2 = (v10 : Int) + 1) → (σ71 v10 2 = v11) → (σ71 a 3 = (v13 : Int) + 1) → (σ71 v10 0 = (v14 : Int) + 1) → (σ71 v14 (Xg6_l2 : Int).toNat = (v15 : Int) + 1) → (σ71 a 8 = v16) → (σ71 v13 (Xg6_l2 : Int).toNat = vu21) → (σ71 a 0 = (v34 : Int) + 1) → (σ71 v34 (Xg6_l2 : Int).toNat = Jg36_s0) → (σ71 a 4 = (v52 : Int) + 1) → (σ71 v52 (Xg6_l2 : Int).toNat = 0) → (Jg70_fa_7 ≤ Xg6_l2 + 1) → sv_E p l e { frames := 4, cells := 0, slots := 0, locals := 88 } s m args below meth c 3 g A ty (fun r σ' => (r = []) ∧ sv_inv sp_1 ty σ' ∧ sv_ofx [(4, 7)] [24, 26, 27, 28] ty σ σ') σ71 83 [(0, sv_r a), (1, sv_i y), (2, sv_i Xg6_l2)] [] := by
            intro Jg70_fa_7 σ71 hJg70_fa_7 okσ71 Iσ71 Fσ71 eσ71_0 eσ71_1 eσ71_2 eσ71_3 eσ71_4 eσ71_5 eσ71_6 eσ71_7 eσ71_8 eσ71_9 eσ71_10 eσ71_11 hj7
            refine sv_go C.1 C.2.1 [(.iinc 2 1, 3)] (pc' := 86) (by decide +kernel) rfl (lv' := [(0, sv_r a), (1, sv_i y), (2, sv_i (Xg6_l2 + 1))]) (st' := []) rfl ?_
            refine sv_goto C.1 C.2.1 (off := (-79)) (tgt := 7) (by decide +kernel) (by decide) ?_
            exact ih9 (Xg6_l2 + 1) Jg70_fa_7 σ71 ⟨by omega, by omega⟩ ⟨by omega, by omega⟩ okσ71 Iσ71 Fσ71 eσ71_0 (by omega) (by omega)
          refine sv_if C.1 C.2.1 (cnd := .lt) (off := 8) (tgt := 83) (by decide +kernel) (by decide) ⟨by omega, by omega⟩ (fun (h69 : vu21 < 0) => ?_) (fun (h69 : ¬ (vu21 < 0)) => ?_)
          · exact J72 Xg6_fa_7 σ54 ⟨by omega, by omega⟩ hok53 hI55 hF56 t57 t58 t59 t60 t61 t62 t63 t64 t65 t66 t67 t68 (by omega)
          · refine sv_go C.1 C.2.1 [(.aload_n 0, 1), (.iload_n 2, 1)] (pc' := 80) (by decide +kernel) rfl (lv' := [(0, sv_r a), (1, sv_i y), (2, sv_i Xg6_l2)]) (st' := [sv_i Xg6_l2, sv_r a]) rfl ?_
            refine sv_cv C (index := 88) (k := 1) (rest := []) (ci := 3) (r := (RX4, TX4, 11)) (by decide +kernel) (sf_X4_insertByOwnDay l g A ty σ54 hok53 hTA hI55 a k_a (Xg6_l2) ⟨by omega, by omega⟩ (Xg6_fa_7) ⟨by omega, by omega⟩ t57) ⟨co_X4_insertByOwnDay, in_X4, ⟨by decide, by decide, by decide +kernel⟩, Nat.le_of_ble_eq_true rfl, Nat.le_of_ble_eq_true rfl⟩ ml_X4_88 im_X4_insertByOwnDay se_X4_insertByOwnDay (by rw [k_a]; rfl) rfl rfl rfl (Nat.le_of_ble_eq_true rfl) ⟨Nat.zero_le _, Nat.zero_le _⟩ (fun r74 σ75 hpo73 hok76 => ?_)
            obtain ⟨rfl, hIu77, hFu77, xu77⟩ := hpo73
            have hGu77 := hF56.tr hFu77 (by decide) (by decide)
            have t78 : σ75 a 2 = (v10 : Int) + 1 := (hFu77.at k_a (by decide) (by decide)).trans t58
            have t79 : σ75 v10 2 = v11 := (hFu77.at kv10 (by decide) (by decide)).trans t59
            have t80 : σ75 a 3 = (v13 : Int) + 1 := (hFu77.at k_a (by decide) (by decide)).trans t60
            have t81 : σ75 v10 0 = (v14 : Int) + 1 := (hFu77.at kv10 (by decide) (by decide)).trans t61
            have t82 : σ75 v14 (Xg6_l2 : Int).toNat = (v15 : Int) + 1 := (hFu77.atA kv14 (by decide) (by decide)).trans t62
            have t83 : σ75 a 8 = v16 := (hFu77.at k_a (by decide) (by decide)).trans t63
            have t84 : σ75 v13 (Xg6_l2 : Int).toNat = vu21 := (hFu77.atA kv13 (by decide) (by decide)).trans t64
            have t85 : σ75 a 0 = (v34 : Int) + 1 := (hFu77.at k_a (by decide) (by decide)).trans t65
            have t86 : σ75 v34 (Xg6_l2 : Int).toNat = Jg36_s0 := (hFu77.atA kv34 (by decide) (by decide)).trans t66
            have t87 : σ75 a 4 = (v52 : Int) + 1 := (hFu77.at k_a (by decide) (by decide)).trans t67
            have t88 : σ75 v52 (Xg6_l2 : Int).toNat = 0 := (hFu77.atA kv52 (by decide) (by decide)).trans t68
            obtain ⟨wu77, ewu77, hwu77⟩ := sv_rdn hIu77 (k := 7) k_a rfl
            refine sv_same (st2 := []) (lv2 := [(0, sv_r a), (1, sv_i y), (2, sv_i Xg6_l2)]) rfl rfl ?_
            exact J72 wu77 σ75 ⟨by omega, by omega⟩ hok76 hIu77 hGu77 ewu77 t78 t79 t80 t81 t82 t83 t84 t85 t86 t87 t88 (by omega)
        refine sv_if C.1 C.2.1 (cnd := .ge) (off := 8) (tgt := 60) (by decide +kernel) (by decide) ⟨by omega, by omega⟩ (fun (h35 : 0 ≤ vu21) => ?_) (fun (h35 : ¬ (0 ≤ vu21)) => ?_)
        · refine sv_go C.1 C.2.1 [(.iconst (-1), 1)] (pc' := 61) (by decide +kernel) rfl (lv' := [(0, sv_r a), (1, sv_i y), (2, sv_i Xg6_l2)]) (st' := [sv_i ((-1)), sv_i Xg6_l2, sv_r v34]) rfl ?_
          exact J37 ((-1)) ⟨by omega, by omega⟩
        · refine sv_go C.1 C.2.1 [(.bipush (-10), 2)] (pc' := 57) (by decide +kernel) rfl (lv' := [(0, sv_r a), (1, sv_i y), (2, sv_i Xg6_l2)]) (st' := [sv_i ((-10)), sv_i Xg6_l2, sv_r v34]) rfl ?_
          refine sv_goto C.1 C.2.1 (off := 4) (tgt := 61) (by decide +kernel) (by decide) ?_
          exact J37 ((-10)) ⟨by omega, by omega⟩
  exact L8 (((60 - 0 : Int)).toNat + 1) 0 0 σ2 ⟨by omega, by omega⟩ ⟨by omega, by omega⟩ hok1 hI3 hF4 t5 (by omega) (by omega)

theorem ml_X4_41 : Cond.methodLink RX4 41 yX2_easterOf ∈ lw_good := sv_mem 691 (by decide +kernel) rfl
theorem co_X2_easterOf : Cond.code yX2_easterOf cX2_easterOf 3 (some .int) ∈ lw_good := sv_mem 652 (by decide +kernel) rfl
theorem st_X2_easterOf : Cond.static yX2_easterOf ∈ lw_good := sv_mem 651 (by decide +kernel) rfl
theorem ml_X4_50 : Cond.methodLink RX4 50 yJ7_fill_53178 ∈ lw_good := sv_mem 692 (by decide +kernel) rfl
theorem ml_X4_59 : Cond.methodLink RX4 59 yX4_sortByOwnDay ∈ lw_good := sv_mem 693 (by decide +kernel) rfl
theorem co_X4_sortByOwnDay : Cond.code yX4_sortByOwnDay cX4_sortByOwnDay 3 none ∈ lw_good := sv_mem 696 (by decide +kernel) rfl
theorem im_X4_sortByOwnDay : Cond.instanceMethod yX4_sortByOwnDay ∈ lw_good := sv_mem 695 (by decide +kernel) rfl
theorem se_X4_sortByOwnDay : Cond.selects RX4 yX4_sortByOwnDay yX4_sortByOwnDay ∈ lw_good := sv_mem 20 (by decide +kernel) rfl
theorem ml_X4_63 : Cond.methodLink RX4 63 yX2_length ∈ lw_good := sv_mem 719 (by decide +kernel) rfl
theorem ml_X4_69 : Cond.methodLink RX4 69 yX4_holdBest ∈ lw_good := sv_mem 720 (by decide +kernel) rfl
theorem co_X4_holdBest : Cond.code yX4_holdBest cX4_holdBest 4 none ∈ lw_good := sv_mem 723 (by decide +kernel) rfl
theorem im_X4_holdBest : Cond.instanceMethod yX4_holdBest ∈ lw_good := sv_mem 722 (by decide +kernel) rfl
theorem se_X4_holdBest : Cond.selects RX4 yX4_holdBest yX4_holdBest ∈ lw_good := sv_mem 23 (by decide +kernel) rfl
theorem ml_X4_72 : Cond.methodLink RX4 72 yX4_moveOthersOn ∈ lw_good := sv_mem 728 (by decide +kernel) rfl
theorem co_X4_moveOthersOn : Cond.code yX4_moveOthersOn cX4_moveOthersOn 4 none ∈ lw_good := sv_mem 731 (by decide +kernel) rfl
theorem im_X4_moveOthersOn : Cond.instanceMethod yX4_moveOthersOn ∈ lw_good := sv_mem 730 (by decide +kernel) rfl
theorem se_X4_moveOthersOn : Cond.selects RX4 yX4_moveOthersOn yX4_moveOthersOn ∈ lw_good := sv_mem 25 (by decide +kernel) rfl
set_option maxHeartbeats 4000000 in
set_option maxRecDepth 100000 in
theorem sf_X4_settle (l : Launch) (g : sv_G) (A : Nat → Prop) (ty : Nat → Nat) (σ : Nat → Nat → Int) (hok : sv_ok ty σ) (hTA : ∀ q, ty q ≠ 0 → A q) (hI : sv_inv sp_1 ty σ) (a : Nat) (k_a : ty a = 4) (y : Int) (h_y : 1 ≤ y ∧ y ≤ 2000) : sv_M l yX4_settle cX4_settle 5 none { frames := 5, cells := 0, slots := 0, locals := 110 } g A ty σ [sv_r a, sv_i y] (fun r σ' => (r = []) ∧ sv_inv sp_1 ty σ' ∧ sv_ofx [(4, 7), (4, 8), (4, 9), (4, 10)] [24, 25, 26, 27, 28, 29] ty σ σ') := by
  refine sv_enter (by decide) (Nat.le_of_ble_eq_true rfl) ?_
  intro p e s m args below meth c C hr
  have C : sv_C g A RX4 cX4_settle 5 p s m args meth c := C
  have hr : meth.sig.returnType = none := hr
  have hF : sv_ofx [(4, 7), (4, 8), (4, 9), (4, 10)] [24, 25, 26, 27, 28, 29] ty σ σ := sv_ofx.rf
  refine sv_same (st2 := []) (lv2 := [(0, sv_r a), (1, sv_i y)]) rfl rfl ?_
  refine sv_go C.1 C.2.1 [(.iload_n 1, 1), (.aload_n 0, 1)] (pc' := 2) (by decide +kernel) rfl (lv' := [(0, sv_r a), (1, sv_i y)]) (st' := [sv_r a, sv_i y]) rfl ?_
  obtain ⟨v1, ev1, hv1⟩ := sv_rdn hI (k := 10) k_a rfl
  refine sv_gf C (index := 37) (ci := 3) (k := 10) (r := (RX4, TX4, 11)) (v := sv_i v1) (by decide +kernel) (by rw [k_a]; rfl) rfl (by decide) fl_X4_37 (congrArg sv_i ev1) ?_
  refine sv_icmp C.1 C.2.1 (cnd := .ne) (off := 4) (tgt := 9) (by decide +kernel) (by decide) ⟨by omega, by omega⟩ ⟨by omega, by omega⟩ (fun (h2 : y ≠ v1) => ?_) (fun (h2 : ¬ (y ≠ v1)) => ?_)
  · refine sv_go C.1 C.2.1 [(.aload_n 0, 1), (.iload_n 1, 1)] (pc' := 11) (by decide +kernel) rfl (lv' := [(0, sv_r a), (1, sv_i y)]) (st' := [sv_i y, sv_r a]) rfl ?_
    refine sv_pf C (index := 37) (ci := 3) (k := 10) (r := (RX4, TX4, 11)) (z := y) (by decide +kernel) (by rw [k_a]; rfl) rfl (by decide) rfl fl_X4_37 rfl (Or.inl rfl) ⟨by omega, by omega⟩ (hTA _ (by rw [k_a]; decide)) hok (fun hok3 => ?_)
    have hI5 := hI.up (a := a) (k := 10) (z := y) (by rw [k_a]; exact ⟨by omega, by omega⟩)
    have hF6 := hF.up (a := a) (k := 10) (z := y) (Or.inr (by rw [k_a]; decide))
    generalize eσ4 : sv_up σ a 10 y = σ4 at hok3 hI5 hF6 ⊢
    have t7 : σ4 a 10 = y := by rw [← eσ4]; exact sv_up_s _ _ _ _
    refine sv_go C.1 C.2.1 [(.aload_n 0, 1), (.iload_n 1, 1)] (pc' := 16) (by decide +kernel) rfl (lv' := [(0, sv_r a), (1, sv_i y)]) (st' := [sv_i y, sv_r a]) rfl ?_
    refine sv_cs C (index := 41) (k := 1) (rest := [sv_r a]) (by decide +kernel) (ct_X2_easterOf l g A ty σ4 hok3 (y) ⟨by omega, by omega⟩) ⟨co_X2_easterOf, in_X2, ⟨by decide, by decide, by decide +kernel⟩, Nat.le_of_ble_eq_true rfl, Nat.le_of_ble_eq_true rfl⟩ ml_X4_41 st_X2_easterOf rfl rfl (Nat.le_of_ble_eq_true rfl) ⟨Nat.zero_le _, Nat.zero_le _⟩ (fun r9 σ10 hpo8 hok11 => ?_)
    obtain ⟨rfl, rfl⟩ := hpo8
    have hn13 := dy_ea_in y
    refine sv_same (st2 := [sv_i (dy_ea y), sv_r a]) (lv2 := [(0, sv_r a), (1, sv_i y)]) rfl rfl ?_
    refine sv_pf C (index := 47) (ci := 3) (k := 8) (r := (RX4, TX4, 11)) (z := dy_ea y) (by decide +kernel) (by rw [k_a]; rfl) rfl (by decide) rfl fl_X4_47 rfl (Or.inl rfl) ⟨by omega, by omega⟩ (hTA _ (by rw [k_a]; decide)) hok11 (fun hok14 => ?_)
    have hI16 := hI5.up (a := a) (k := 8) (z := dy_ea y) (by rw [k_a]; exact ⟨by omega, by omega⟩)
    have hF17 := hF6.up (a := a) (k := 8) (z := dy_ea y) (Or.inr (by rw [k_a]; decide))
    generalize eσ15 : sv_up σ4 a 8 (dy_ea y) = σ15 at hok14 hI16 hF17 ⊢
    have t18 : σ15 a 10 = y := by rw [← eσ15, sv_up_k (by decide)]; exact t7
    have t19 : σ15 a 8 = dy_ea y := by rw [← eσ15]; exact sv_up_s _ _ _ _
    refine sv_go C.1 C.2.1 [(.aload_n 0, 1)] (pc' := 23) (by decide +kernel) rfl (lv' := [(0, sv_r a), (1, sv_i y)]) (st' := [sv_r a]) rfl ?_
    obtain ⟨v20, ev20, kv20⟩ := hI16.ref (k := 1) k_a rfl
    refine sv_gf C (index := 15) (ci := 3) (k := 1) (r := (RX4, TX4, 11)) (v := sv_r v20) (by decide +kernel) (by rw [k_a]; rfl) rfl (by decide) fl_X4_15 (congrArg sv_a ev20) ?_
    refine sv_go C.1 C.2.1 [(.iconst (-1), 1)] (pc' := 27) (by decide +kernel) rfl (lv' := [(0, sv_r a), (1, sv_i y)]) (st' := [sv_i ((-1)), sv_r v20]) rfl ?_
    refine sv_cs C (index := 50) (k := 2) (rest := []) (by decide +kernel) (ct_fill l g A ty σ15 hok14 v20 366 (by rw [kv20]; rfl) (by decide) (hTA _ (by rw [kv20]; decide)) ((-1)) ⟨by omega, by omega⟩) ⟨co_J7_fill_53178, in_J7, ⟨by decide, by decide, by decide +kernel⟩, Nat.le_of_ble_eq_true rfl, Nat.le_of_ble_eq_true rfl⟩ ml_X4_50 st_J7_fill_53178 rfl rfl (Nat.le_of_ble_eq_true rfl) ⟨Nat.zero_le _, Nat.zero_le _⟩ (fun r22 σ23 hpo21 hok24 => ?_)
    obtain ⟨rfl, h1u25, h2u25, h3u25⟩ := hpo21
    have hIu25 := hI16.fill (b := v20) (n := 366) (v := (-1)) (fun k => by rw [kv20]; exact ⟨by decide, by decide⟩) h1u25 h2u25 h3u25
    have hGu25 := hF17.fill (b := v20) (by rw [kv20]; decide) h1u25
    have t26 : σ23 a 10 = y := (h1u25 a (sv_ne k_a kv20 (by decide)) 10).trans t18
    have t27 : σ23 a 8 = dy_ea y := (h1u25 a (sv_ne k_a kv20 (by decide)) 8).trans t19
    have t28 : σ23 a 1 = (v20 : Int) + 1 := (h1u25 a (sv_ne k_a kv20 (by decide)) 1).trans ev20
    refine sv_same (st2 := []) (lv2 := [(0, sv_r a), (1, sv_i y)]) rfl rfl ?_
    refine sv_go C.1 C.2.1 [(.aload_n 0, 1), (.iconst 0, 1)] (pc' := 32) (by decide +kernel) rfl (lv' := [(0, sv_r a), (1, sv_i y)]) (st' := [sv_i 0, sv_r a]) rfl ?_
    refine sv_pf C (index := 56) (ci := 3) (k := 9) (r := (RX4, TX4, 11)) (z := 0) (by decide +kernel) (by rw [k_a]; rfl) rfl (by decide) rfl fl_X4_56 rfl (Or.inl rfl) ⟨by omega, by omega⟩ (hTA _ (by rw [k_a]; decide)) hok24 (fun hok29 => ?_)
    have hI31 := hIu25.up (a := a) (k := 9) (z := 0) (by rw [k_a]; exact ⟨by omega, by omega⟩)
    have hF32 := hGu25.up (a := a) (k := 9) (z := 0) (Or.inr (by rw [k_a]; decide))
    generalize eσ30 : sv_up σ23 a 9 0 = σ30 at hok29 hI31 hF32 ⊢
    have t33 : σ30 a 10 = y := by rw [← eσ30, sv_up_k (by decide)]; exact t26
    have t34 : σ30 a 8 = dy_ea y := by rw [← eσ30, sv_up_k (by decide)]; exact t27
    have t35 : σ30 a 1 = (v20 : Int) + 1 := by rw [← eσ30, sv_up_k (by decide)]; exact t28
    have t36 : σ30 a 9 = 0 := by rw [← eσ30]; exact sv_up_s _ _ _ _
    refine sv_go C.1 C.2.1 [(.aload_n 0, 1), (.iload_n 1, 1)] (pc' := 37) (by decide +kernel) rfl (lv' := [(0, sv_r a), (1, sv_i y)]) (st' := [sv_i y, sv_r a]) rfl ?_
    refine sv_cv C (index := 59) (k := 1) (rest := []) (ci := 3) (r := (RX4, TX4, 11)) (by decide +kernel) (sf_X4_sortByOwnDay l g A ty σ30 hok29 hTA hI31 a k_a (y) ⟨by omega, by omega⟩) ⟨co_X4_sortByOwnDay, in_X4, ⟨by decide, by decide, by decide +kernel⟩, Nat.le_of_ble_eq_true rfl, Nat.le_of_ble_eq_true rfl⟩ ml_X4_59 im_X4_sortByOwnDay se_X4_sortByOwnDay (by rw [k_a]; rfl) rfl rfl rfl (Nat.le_of_ble_eq_true rfl) ⟨Nat.zero_le _, Nat.zero_le _⟩ (fun r38 σ39 hpo37 hok40 => ?_)
    obtain ⟨rfl, hIu41, hFu41⟩ := hpo37
    have hGu41 := hF32.tr hFu41 (by decide) (by decide)
    have t42 : σ39 a 10 = y := (hFu41.at k_a (by decide) (by decide)).trans t33
    have t43 : σ39 a 8 = dy_ea y := (hFu41.at k_a (by decide) (by decide)).trans t34
    have t44 : σ39 a 1 = (v20 : Int) + 1 := (hFu41.at k_a (by decide) (by decide)).trans t35
    have t45 : σ39 a 9 = 0 := (hFu41.at k_a (by decide) (by decide)).trans t36
    refine sv_same (st2 := []) (lv2 := [(0, sv_r a), (1, sv_i y)]) rfl rfl ?_
    refine sv_go C.1 C.2.1 [(.iload_n 1, 1)] (pc' := 41) (by decide +kernel) rfl (lv' := [(0, sv_r a), (1, sv_i y)]) (st' := [sv_i y]) rfl ?_
    refine sv_cs C (index := 63) (k := 1) (rest := []) (by decide +kernel) (ct_X2_length l g A ty σ39 hok40 (y) ⟨by omega, by omega⟩) ⟨co_X2_length, in_X2, ⟨by decide, by decide, by decide +kernel⟩, Nat.le_of_ble_eq_true rfl, Nat.le_of_ble_eq_true rfl⟩ ml_X4_63 st_X2_length rfl rfl (Nat.le_of_ble_eq_true rfl) ⟨Nat.zero_le _, Nat.zero_le _⟩ (fun r47 σ48 hpo46 hok49 => ?_)
    obtain ⟨rfl, rfl⟩ := hpo46
    have hn51 := dy_lp_in y
    refine sv_same (st2 := [sv_i (365 + dy_lp y)]) (lv2 := [(0, sv_r a), (1, sv_i y)]) rfl rfl ?_
    refine sv_go C.1 C.2.1 [(.istore_n 2, 1), (.iconst 0, 1), (.istore_n 3, 1), (.iconst 0, 1), (.istore 4, 2)] (pc' := 50) (by decide +kernel) rfl (lv' := [(0, sv_r a), (1, sv_i y), (2, sv_i (365 + dy_lp y)), (3, sv_i 0), (4, sv_i 0)]) (st' := []) rfl ?_
    have L54 : ∀ (n : Nat) (Xg52_l3 : Int) (Xg52_l4 : Int) (Xg52_fa_9 : Int) (σ53 : Nat → Nat → Int), (0 ≤ Xg52_l3 ∧ Xg52_l3 ≤ 60) → (0 ≤ Xg52_l4 ∧ Xg52_l4 ≤ 366) → (0 ≤ Xg52_fa_9 ∧ Xg52_fa_9 ≤ 60) → (sv_ok ty σ53) → (sv_inv sp_1 ty σ53) → (sv_ofx [(4, 7), (4, 8), (4, 9), (4, 10)] [24, 25, 26, 27, 28, 29] ty σ σ53) → (σ53 a 10 = y) → (σ53 a 8 = dy_ea y) → (σ53 a 1 = (v20 : Int) + 1) → (σ53 a 9 = Xg52_fa_9) → (Xg52_fa_9 ≤ Xg52_l3) → (366 - Xg52_l4) < (n : Int) → sv_E p l e { frames := 5, cells := 0, slots := 0, locals := 110 } s m args below meth c 5 g A ty (fun r σ' => (r = []) ∧ sv_inv sp_1 ty σ' ∧ sv_ofx [(4, 7), (4, 8), (4, 9), (4, 10)] [24, 25, 26, 27, 28, 29] ty σ σ') σ53 50 [(0, sv_r a), (2, sv_i (365 + dy_lp y)), (3, sv_i Xg52_l3), (4, sv_i Xg52_l4)] [] := by
      intro n
      induction n with
      | zero => intro Xg52_l3 Xg52_l4 Xg52_fa_9 σ53 hXg52_l3 hXg52_l4 hXg52_fa_9 okσ53 Iσ53 Fσ53 eσ53_0 eσ53_1 eσ53_2 eσ53_3 hw9 hmu; exact absurd hmu (by omega)
      | succ n ih55 =>
        intro Xg52_l3 Xg52_l4 Xg52_fa_9 σ53 hXg52_l3 hXg52_l4 hXg52_fa_9 okσ53 Iσ53 Fσ53 eσ53_0 eσ53_1 eσ53_2 eσ53_3 hw9 hmu
        refine sv_go C.1 C.2.1 [(.iload 4, 2), (.iload_n 2, 1)] (pc' := 53) (by decide +kernel) rfl (lv' := [(0, sv_r a), (2, sv_i (365 + dy_lp y)), (3, sv_i Xg52_l3), (4, sv_i Xg52_l4)]) (st' := [sv_i (365 + dy_lp y), sv_i Xg52_l4]) rfl ?_
        refine sv_icmp C.1 C.2.1 (cnd := .ge) (off := 96) (tgt := 149) (by decide +kernel) (by decide) ⟨by omega, by omega⟩ ⟨by omega, by omega⟩ (fun (h56 : (365 + dy_lp y) ≤ Xg52_l4) => ?_) (fun (h56 : ¬ ((365 + dy_lp y) ≤ Xg52_l4)) => ?_)
        · exact sv_vret C hr (by decide +kernel) okσ53 (⟨rfl, Iσ53, Fσ53⟩)
        · refine sv_go C.1 C.2.1 [(.iload_n 3, 1), (.aload_n 0, 1)] (pc' := 58) (by decide +kernel) rfl (lv' := [(0, sv_r a), (2, sv_i (365 + dy_lp y)), (3, sv_i Xg52_l3), (4, sv_i Xg52_l4)]) (st' := [sv_r a, sv_i Xg52_l3]) rfl ?_
          obtain ⟨v57, ev57, hv57⟩ := sv_rdn Iσ53 (k := 7) k_a rfl
          refine sv_gf C (index := 66) (ci := 3) (k := 7) (r := (RX4, TX4, 11)) (v := sv_i v57) (by decide +kernel) (by rw [k_a]; rfl) rfl (by decide) fl_X4_66 (congrArg sv_i ev57) ?_
          refine sv_icmp C.1 C.2.1 (cnd := .lt) (off := 10) (tgt := 71) (by decide +kernel) (by decide) ⟨by omega, by omega⟩ ⟨by omega, by omega⟩ (fun (h58 : Xg52_l3 < v57) => ?_) (fun (h58 : ¬ (Xg52_l3 < v57)) => ?_)
          · have J61 : ∀ (Yg59_l3 : Int) (Yg59_fa_9 : Int) (σ60 : Nat → Nat → Int), (0 ≤ Yg59_l3 ∧ Yg59_l3 ≤ 60) → (0 ≤ Yg59_fa_9 ∧ Yg59_fa_9 ≤ 60) → (sv_ok ty σ60) → (sv_inv sp_1 ty σ60) → (sv_ofx [(4, 7), (4, 8), (4, 9), (4, 10)] [24, 25, 26, 27, 28, 29] ty σ σ60) → (σ60 a 10 = y) → (σ60 a 8 = dy_ea y) → (σ60 a 1 = (v20 : Int) + 1) → (σ60 a 9 = Yg59_fa_9) → (σ60 a 7 = v57) → (Yg59_fa_9 ≤ Yg59_l3) → sv_E p l e { frames := 5, cells := 0, slots := 0, locals := 110 } s m args below meth c 5 g A ty (fun r σ' => (r = []) ∧ sv_inv sp_1 ty σ' ∧ sv_ofx [(4, 7), (4, 8), (4, 9), (4, 10)] [24, 25, 26, 27, 28, 29] ty σ σ') σ60 126 [(0, sv_r a), (2, sv_i (365 + dy_lp y)), (3, sv_i Yg59_l3), (4, sv_i Xg52_l4)] [] := by
              intro Yg59_l3 Yg59_fa_9 σ60 hYg59_l3 hYg59_fa_9 okσ60 Iσ60 Fσ60 eσ60_0 eσ60_1 eσ60_2 eσ60_3 eσ60_4 hu9
              refine sv_go C.1 C.2.1 [(.aload_n 0, 1)] (pc' := 127) (by decide +kernel) rfl (lv' := [(0, sv_r a), (2, sv_i (365 + dy_lp y)), (3, sv_i Yg59_l3), (4, sv_i Xg52_l4)]) (st' := [sv_r a]) rfl ?_
              refine sv_gf C (index := 56) (ci := 3) (k := 9) (r := (RX4, TX4, 11)) (v := sv_i Yg59_fa_9) (by decide +kernel) (by rw [k_a]; rfl) rfl (by decide) fl_X4_56 (congrArg sv_i eσ60_3) ?_
              have J65 : ∀ (Jg63_fa_9 : Int) (σ64 : Nat → Nat → Int), (0 ≤ Jg63_fa_9 ∧ Jg63_fa_9 ≤ 60) → (sv_ok ty σ64) → (sv_inv sp_1 ty σ64) → (sv_ofx [(4, 7), (4, 8), (4, 9), (4, 10)] [24, 25, 26, 27, 28, 29] ty σ σ64) → (σ64 a 10 = y) → (σ64 a 8 = dy_ea y) → (σ64 a 1 = (v20 : Int) + 1) → (σ64 a 9 = Jg63_fa_9) → (σ64 a 7 = v57) → (Jg63_fa_9 ≤ Yg59_l3) → sv_E p l e { frames := 5, cells := 0, slots := 0, locals := 110 } s m args below meth c 5 g A ty (fun r σ' => (r = []) ∧ sv_inv sp_1 ty σ' ∧ sv_ofx [(4, 7), (4, 8), (4, 9), (4, 10)] [24, 25, 26, 27, 28, 29] ty σ σ') σ64 143 [(0, sv_r a), (2, sv_i (365 + dy_lp y)), (3, sv_i Yg59_l3), (4, sv_i Xg52_l4)] [] := by
                intro Jg63_fa_9 σ64 hJg63_fa_9 okσ64 Iσ64 Fσ64 eσ64_0 eσ64_1 eσ64_2 eσ64_3 eσ64_4 ht9
                refine sv_go C.1 C.2.1 [(.iinc 4 1, 3)] (pc' := 146) (by decide +kernel) rfl (lv' := [(0, sv_r a), (2, sv_i (365 + dy_lp y)), (3, sv_i Yg59_l3), (4, sv_i (Xg52_l4 + 1))]) (st' := []) rfl ?_
                refine sv_goto C.1 C.2.1 (off := (-96)) (tgt := 50) (by decide +kernel) (by decide) ?_
                exact ih55 Yg59_l3 (Xg52_l4 + 1) Jg63_fa_9 σ64 ⟨by omega, by omega⟩ ⟨by omega, by omega⟩ ⟨by omega, by omega⟩ okσ64 Iσ64 Fσ64 eσ64_0 eσ64_1 eσ64_2 eσ64_3 (by omega) (by omega)
              refine sv_if C.1 C.2.1 (cnd := .le) (off := 13) (tgt := 143) (by decide +kernel) (by decide) ⟨by omega, by omega⟩ (fun (h62 : Yg59_fa_9 ≤ 0) => ?_) (fun (h62 : ¬ (Yg59_fa_9 ≤ 0)) => ?_)
              · exact J65 Yg59_fa_9 σ60 ⟨by omega, by omega⟩ okσ60 Iσ60 Fσ60 eσ60_0 eσ60_1 eσ60_2 eσ60_3 eσ60_4 (by omega)
              · refine sv_go C.1 C.2.1 [(.aload_n 0, 1), (.iload 4, 2)] (pc' := 136) (by decide +kernel) rfl (lv' := [(0, sv_r a), (2, sv_i (365 + dy_lp y)), (3, sv_i Yg59_l3), (4, sv_i Xg52_l4)]) (st' := [sv_i Xg52_l4, sv_r a]) rfl ?_
                refine sv_cv C (index := 69) (k := 1) (rest := []) (ci := 3) (r := (RX4, TX4, 11)) (by decide +kernel) (sf_X4_holdBest l g A ty σ60 okσ60 hTA Iσ60 a k_a (Xg52_l4) ⟨by omega, by omega⟩) ⟨co_X4_holdBest, in_X4, ⟨by decide, by decide, by decide +kernel⟩, Nat.le_of_ble_eq_true rfl, Nat.le_of_ble_eq_true rfl⟩ ml_X4_69 im_X4_holdBest se_X4_holdBest (by rw [k_a]; rfl) rfl rfl rfl (Nat.le_of_ble_eq_true rfl) ⟨Nat.zero_le _, Nat.zero_le _⟩ (fun r67 σ68 hpo66 hok69 => ?_)
                obtain ⟨rfl, hIu70, hFu70⟩ := hpo66
                have hGu70 := Fσ60.tr hFu70 (by decide) (by decide)
                have t71 : σ68 a 10 = y := (hFu70.at k_a (by decide) (by decide)).trans eσ60_0
                have t72 : σ68 a 8 = dy_ea y := (hFu70.at k_a (by decide) (by decide)).trans eσ60_1
                have t73 : σ68 a 1 = (v20 : Int) + 1 := (hFu70.at k_a (by decide) (by decide)).trans eσ60_2
                have t74 : σ68 a 9 = Yg59_fa_9 := (hFu70.at k_a (by decide) (by decide)).trans eσ60_3
                have t75 : σ68 a 7 = v57 := (hFu70.at k_a (by decide) (by decide)).trans eσ60_4
                refine sv_same (st2 := []) (lv2 := [(0, sv_r a), (2, sv_i (365 + dy_lp y)), (3, sv_i Yg59_l3), (4, sv_i Xg52_l4)]) rfl rfl ?_
                refine sv_go C.1 C.2.1 [(.aload_n 0, 1)] (pc' := 140) (by decide +kernel) rfl (lv' := [(0, sv_r a), (2, sv_i (365 + dy_lp y)), (3, sv_i Yg59_l3), (4, sv_i Xg52_l4)]) (st' := [sv_r a]) rfl ?_
                refine sv_cv C (index := 72) (k := 0) (rest := []) (ci := 3) (r := (RX4, TX4, 11)) (by decide +kernel) (sf_X4_moveOthersOn l g A ty σ68 hok69 hTA hIu70 a k_a) ⟨co_X4_moveOthersOn, in_X4, ⟨by decide, by decide, by decide +kernel⟩, Nat.le_of_ble_eq_true rfl, Nat.le_of_ble_eq_true rfl⟩ ml_X4_72 im_X4_moveOthersOn se_X4_moveOthersOn (by rw [k_a]; rfl) rfl rfl rfl (Nat.le_of_ble_eq_true rfl) ⟨Nat.zero_le _, Nat.zero_le _⟩ (fun r77 σ78 hpo76 hok79 => ?_)
                obtain ⟨rfl, hIu80, hFu80, xu80⟩ := hpo76
                have hGu80 := hGu70.tr hFu80 (by decide) (by decide)
                have t81 : σ78 a 10 = y := (hFu80.at k_a (by decide) (by decide)).trans t71
                have t82 : σ78 a 8 = dy_ea y := (hFu80.at k_a (by decide) (by decide)).trans t72
                have t83 : σ78 a 1 = (v20 : Int) + 1 := (hFu80.at k_a (by decide) (by decide)).trans t73
                have t84 : σ78 a 7 = v57 := (hFu80.at k_a (by decide) (by decide)).trans t75
                obtain ⟨wu80, ewu80, hwu80⟩ := sv_rdn hIu80 (k := 9) k_a rfl
                refine sv_same (st2 := []) (lv2 := [(0, sv_r a), (2, sv_i (365 + dy_lp y)), (3, sv_i Yg59_l3), (4, sv_i Xg52_l4)]) rfl rfl ?_
                exact J65 wu80 σ78 ⟨by omega, by omega⟩ hok79 hIu80 hGu80 t81 t82 t83 ewu80 t84 (by omega)
            have L87 : ∀ (n : Nat) (Xg85_l3 : Int) (Xg85_fa_9 : Int) (σ86 : Nat → Nat → Int), (0 ≤ Xg85_l3 ∧ Xg85_l3 ≤ 60) → (0 ≤ Xg85_fa_9 ∧ Xg85_fa_9 ≤ 60) → (sv_ok ty σ86) → (sv_inv sp_1 ty σ86) → (sv_ofx [(4, 7), (4, 8), (4, 9), (4, 10)] [24, 25, 26, 27, 28, 29] ty σ σ86) → (σ86 a 10 = y) → (σ86 a 8 = dy_ea y) → (σ86 a 1 = (v20 : Int) + 1) → (σ86 a 9 = Xg85_fa_9) → (σ86 a 7 = v57) → (Xg85_fa_9 ≤ Xg85_l3) → (60 - Xg85_l3) < (n : Int) → sv_E p l e { frames := 5, cells := 0, slots := 0, locals := 110 } s m args below meth c 5 g A ty (fun r σ' => (r = []) ∧ sv_inv sp_1 ty σ' ∧ sv_ofx [(4, 7), (4, 8), (4, 9), (4, 10)] [24, 25, 26, 27, 28, 29] ty σ σ') σ86 71 [(0, sv_r a), (2, sv_i (365 + dy_lp y)), (3, sv_i Xg85_l3), (4, sv_i Xg52_l4)] [] := by
              intro n
              induction n with
              | zero => intro Xg85_l3 Xg85_fa_9 σ86 hXg85_l3 hXg85_fa_9 okσ86 Iσ86 Fσ86 eσ86_0 eσ86_1 eσ86_2 eσ86_3 eσ86_4 hv9 hmu; exact absurd hmu (by omega)
              | succ n ih88 =>
                intro Xg85_l3 Xg85_fa_9 σ86 hXg85_l3 hXg85_fa_9 okσ86 Iσ86 Fσ86 eσ86_0 eσ86_1 eσ86_2 eσ86_3 eσ86_4 hv9 hmu
                refine sv_go C.1 C.2.1 [(.iload_n 3, 1), (.aload_n 0, 1)] (pc' := 73) (by decide +kernel) rfl (lv' := [(0, sv_r a), (2, sv_i (365 + dy_lp y)), (3, sv_i Xg85_l3), (4, sv_i Xg52_l4)]) (st' := [sv_r a, sv_i Xg85_l3]) rfl ?_
                refine sv_gf C (index := 66) (ci := 3) (k := 7) (r := (RX4, TX4, 11)) (v := sv_i v57) (by decide +kernel) (by rw [k_a]; rfl) rfl (by decide) fl_X4_66 (congrArg sv_i eσ86_4) ?_
                refine sv_icmp C.1 C.2.1 (cnd := .ge) (off := 50) (tgt := 126) (by decide +kernel) (by decide) ⟨by omega, by omega⟩ ⟨by omega, by omega⟩ (fun (h89 : v57 ≤ Xg85_l3) => ?_) (fun (h89 : ¬ (v57 ≤ Xg85_l3)) => ?_)
                · exact J61 Xg85_l3 Xg85_fa_9 σ86 ⟨by omega, by omega⟩ ⟨by omega, by omega⟩ okσ86 Iσ86 Fσ86 eσ86_0 eσ86_1 eσ86_2 eσ86_3 eσ86_4 (by omega)
                · refine sv_go C.1 C.2.1 [(.aload_n 0, 1)] (pc' := 80) (by decide +kernel) rfl (lv' := [(0, sv_r a), (2, sv_i (365 + dy_lp y)), (3, sv_i Xg85_l3), (4, sv_i Xg52_l4)]) (st' := [sv_r a]) rfl ?_
                  obtain ⟨v90, ev90, kv90⟩ := Iσ86.ref (k := 3) k_a rfl
                  refine sv_gf C (index := 25) (ci := 3) (k := 3) (r := (RX4, TX4, 11)) (v := sv_r v90) (by decide +kernel) (by rw [k_a]; rfl) rfl (by decide) fl_X4_25 (congrArg sv_a ev90) ?_
                  refine sv_go C.1 C.2.1 [(.aload_n 0, 1)] (pc' := 84) (by decide +kernel) rfl (lv' := [(0, sv_r a), (2, sv_i (365 + dy_lp y)), (3, sv_i Xg85_l3), (4, sv_i Xg52_l4)]) (st' := [sv_r a, sv_r v90]) rfl ?_
                  obtain ⟨v91, ev91, kv91⟩ := Iσ86.ref (k := 5) k_a rfl
                  refine sv_gf C (index := 31) (ci := 3) (k := 5) (r := (RX4, TX4, 11)) (v := sv_r v91) (by decide +kernel) (by rw [k_a]; rfl) rfl (by decide) fl_X4_31 (congrArg sv_a ev91) ?_
                  refine sv_go C.1 C.2.1 [(.iload_n 3, 1)] (pc' := 88) (by decide +kernel) rfl (lv' := [(0, sv_r a), (2, sv_i (365 + dy_lp y)), (3, sv_i Xg85_l3), (4, sv_i Xg52_l4)]) (st' := [sv_i Xg85_l3, sv_r v91, sv_r v90]) rfl ?_
                  refine sv_ia C (n := 60) (by decide +kernel) (by rw [kv91]; rfl) (by decide) (by omega) (by omega) ?_
                  obtain ⟨v92, ev92, hv92⟩ := sv_rdn Iσ86 (k := (Xg85_l3 : Int).toNat) kv91 rfl
                  rw [ev92]
                  refine sv_ia C (n := 60) (by decide +kernel) (by rw [kv90]; rfl) (by decide) (by omega) (by omega) ?_
                  obtain ⟨v93, ev93, hv93⟩ := sv_rde okσ86 (a := v90) (k := (v92 : Int).toNat) (n := 60) (by rw [kv90]; rfl) (by omega)
                  rw [ev93]
                  refine sv_go C.1 C.2.1 [(.iload 4, 2)] (pc' := 92) (by decide +kernel) rfl (lv' := [(0, sv_r a), (2, sv_i (365 + dy_lp y)), (3, sv_i Xg85_l3), (4, sv_i Xg52_l4)]) (st' := [sv_i Xg52_l4, sv_i v93]) rfl ?_
                  refine sv_icmp C.1 C.2.1 (cnd := .ne) (off := 34) (tgt := 126) (by decide +kernel) (by decide) ⟨by omega, by omega⟩ ⟨by omega, by omega⟩ (fun (h94 : v93 ≠ Xg52_l4) => ?_) (fun (h94 : ¬ (v93 ≠ Xg52_l4)) => ?_)
                  · exact J61 Xg85_l3 Xg85_fa_9 σ86 ⟨by omega, by omega⟩ ⟨by omega, by omega⟩ okσ86 Iσ86 Fσ86 eσ86_0 eσ86_1 eσ86_2 eσ86_3 eσ86_4 (by omega)
                  · refine sv_go C.1 C.2.1 [(.aload_n 0, 1)] (pc' := 96) (by decide +kernel) rfl (lv' := [(0, sv_r a), (2, sv_i (365 + dy_lp y)), (3, sv_i Xg85_l3), (4, sv_i Xg52_l4)]) (st' := [sv_r a]) rfl ?_
                    obtain ⟨v95, ev95, kv95⟩ := Iσ86.ref (k := 6) k_a rfl
                    refine sv_gf C (index := 34) (ci := 3) (k := 6) (r := (RX4, TX4, 11)) (v := sv_r v95) (by decide +kernel) (by rw [k_a]; rfl) rfl (by decide) fl_X4_34 (congrArg sv_a ev95) ?_
                    refine sv_go C.1 C.2.1 [(.aload_n 0, 1)] (pc' := 100) (by decide +kernel) rfl (lv' := [(0, sv_r a), (2, sv_i (365 + dy_lp y)), (3, sv_i Xg85_l3), (4, sv_i Xg52_l4)]) (st' := [sv_r a, sv_r v95]) rfl ?_
                    refine sv_gf C (index := 56) (ci := 3) (k := 9) (r := (RX4, TX4, 11)) (v := sv_i Xg85_fa_9) (by decide +kernel) (by rw [k_a]; rfl) rfl (by decide) fl_X4_56 (congrArg sv_i eσ86_3) ?_
                    refine sv_go C.1 C.2.1 [(.aload_n 0, 1)] (pc' := 104) (by decide +kernel) rfl (lv' := [(0, sv_r a), (2, sv_i (365 + dy_lp y)), (3, sv_i Xg85_l3), (4, sv_i Xg52_l4)]) (st' := [sv_r a, sv_i Xg85_fa_9, sv_r v95]) rfl ?_
                    refine sv_gf C (index := 31) (ci := 3) (k := 5) (r := (RX4, TX4, 11)) (v := sv_r v91) (by decide +kernel) (by rw [k_a]; rfl) rfl (by decide) fl_X4_31 (congrArg sv_a ev91) ?_
                    refine sv_go C.1 C.2.1 [(.iload_n 3, 1)] (pc' := 108) (by decide +kernel) rfl (lv' := [(0, sv_r a), (2, sv_i (365 + dy_lp y)), (3, sv_i Xg85_l3), (4, sv_i Xg52_l4)]) (st' := [sv_i Xg85_l3, sv_r v91, sv_i Xg85_fa_9, sv_r v95]) rfl ?_
                    refine sv_ia C (n := 60) (by decide +kernel) (by rw [kv91]; rfl) (by decide) (by omega) (by omega) ?_
                    rw [ev92]
                    refine sv_is C (n := 60) (by decide +kernel) (by rw [kv95]; rfl) (by decide) (by omega) (by omega) ⟨by omega, by omega⟩ (hTA _ (by rw [kv95]; decide)) okσ86 (fun hok96 => ?_)
                    have hI98 := Iσ86.up (a := v95) (k := (Xg85_fa_9 : Int).toNat) (z := v92) (by rw [kv95]; exact ⟨by omega, by omega⟩)
                    have hF99 := Fσ86.up (a := v95) (k := (Xg85_fa_9 : Int).toNat) (z := v92) (Or.inl (by rw [kv95]; decide))
                    generalize eσ97 : sv_up σ86 v95 (Xg85_fa_9 : Int).toNat v92 = σ97 at hok96 hI98 hF99 ⊢
                    have t100 : σ97 a 10 = y := by rw [← eσ97, sv_up_a (sv_ne k_a kv95 (by decide))]; exact eσ86_0
                    have t101 : σ97 a 8 = dy_ea y := by rw [← eσ97, sv_up_a (sv_ne k_a kv95 (by decide))]; exact eσ86_1
                    have t102 : σ97 a 1 = (v20 : Int) + 1 := by rw [← eσ97, sv_up_a (sv_ne k_a kv95 (by decide))]; exact eσ86_2
                    have t103 : σ97 a 9 = Xg85_fa_9 := by rw [← eσ97, sv_up_a (sv_ne k_a kv95 (by decide))]; exact eσ86_3
                    have t104 : σ97 a 7 = v57 := by rw [← eσ97, sv_up_a (sv_ne k_a kv95 (by decide))]; exact eσ86_4
                    have t105 : σ97 a 3 = (v90 : Int) + 1 := by rw [← eσ97, sv_up_a (sv_ne k_a kv95 (by decide))]; exact ev90
                    have t106 : σ97 a 5 = (v91 : Int) + 1 := by rw [← eσ97, sv_up_a (sv_ne k_a kv95 (by decide))]; exact ev91
                    have t107 : σ97 v91 (Xg85_l3 : Int).toNat = v92 := by rw [← eσ97, sv_up_a (sv_ne kv91 kv95 (by decide))]; exact ev92
                    have t108 : σ97 v90 (v92 : Int).toNat = v93 := by rw [← eσ97, sv_up_a (sv_ne kv90 kv95 (by decide))]; exact ev93
                    have t109 : σ97 a 6 = (v95 : Int) + 1 := by rw [← eσ97, sv_up_a (sv_ne k_a kv95 (by decide))]; exact ev95
                    have t110 : σ97 v95 (Xg85_fa_9 : Int).toNat = v92 := by rw [← eσ97]; exact sv_up_s _ _ _ _
                    refine sv_go C.1 C.2.1 [(.aload_n 0, 1), (.dup, 1)] (pc' := 112) (by decide +kernel) rfl (lv' := [(0, sv_r a), (2, sv_i (365 + dy_lp y)), (3, sv_i Xg85_l3), (4, sv_i Xg52_l4)]) (st' := [sv_r a, sv_r a]) rfl ?_
                    refine sv_gf C (index := 56) (ci := 3) (k := 9) (r := (RX4, TX4, 11)) (v := sv_i Xg85_fa_9) (by decide +kernel) (by rw [k_a]; rfl) rfl (by decide) fl_X4_56 (congrArg sv_i t103) ?_
                    refine sv_go C.1 C.2.1 [(.iconst 1, 1), (.iadd, 1)] (pc' := 117) (by decide +kernel) rfl (lv' := [(0, sv_r a), (2, sv_i (365 + dy_lp y)), (3, sv_i Xg85_l3), (4, sv_i Xg52_l4)]) (st' := [sv_i (Xg85_fa_9 + 1), sv_r a]) rfl ?_
                    refine sv_pf C (index := 56) (ci := 3) (k := 9) (r := (RX4, TX4, 11)) (z := Xg85_fa_9 + 1) (by decide +kernel) (by rw [k_a]; rfl) rfl (by decide) rfl fl_X4_56 rfl (Or.inl rfl) ⟨by omega, by omega⟩ (hTA _ (by rw [k_a]; decide)) hok96 (fun hok111 => ?_)
                    have hI113 := hI98.up (a := a) (k := 9) (z := Xg85_fa_9 + 1) (by rw [k_a]; exact ⟨by omega, by omega⟩)
                    have hF114 := hF99.up (a := a) (k := 9) (z := Xg85_fa_9 + 1) (Or.inr (by rw [k_a]; decide))
                    generalize eσ112 : sv_up σ97 a 9 (Xg85_fa_9 + 1) = σ112 at hok111 hI113 hF114 ⊢
                    have t115 : σ112 a 10 = y := by rw [← eσ112, sv_up_k (by decide)]; exact t100
                    have t116 : σ112 a 8 = dy_ea y := by rw [← eσ112, sv_up_k (by decide)]; exact t101
                    have t117 : σ112 a 1 = (v20 : Int) + 1 := by rw [← eσ112, sv_up_k (by decide)]; exact t102
                    have t118 : σ112 a 7 = v57 := by rw [← eσ112, sv_up_k (by decide)]; exact t104
                    have t119 : σ112 a 3 = (v90 : Int) + 1 := by rw [← eσ112, sv_up_k (by decide)]; exact t105
                    have t120 : σ112 a 5 = (v91 : Int) + 1 := by rw [← eσ112, sv_up_k (by decide)]; exact t106
                    have t121 : σ112 v91 (Xg85_l3 : Int).toNat = v92 := by rw [← eσ112, sv_up_a (sv_ne kv91 k_a (by decide))]; exact t107
                    have t122 : σ112 v90 (v92 : Int).toNat = v93 := by rw [← eσ112, sv_up_a (sv_ne kv90 k_a (by decide))]; exact t108
                    have t123 : σ112 a 6 = (v95 : Int) + 1 := by rw [← eσ112, sv_up_k (by decide)]; exact t109
                    have t124 : σ112 v95 (Xg85_fa_9 : Int).toNat = v92 := by rw [← eσ112, sv_up_a (sv_ne kv95 k_a (by decide))]; exact t110
                    have t125 : σ112 a 9 = Xg85_fa_9 + 1 := by rw [← eσ112]; exact sv_up_s _ _ _ _
                    refine sv_go C.1 C.2.1 [(.iinc 3 1, 3)] (pc' := 123) (by decide +kernel) rfl (lv' := [(0, sv_r a), (2, sv_i (365 + dy_lp y)), (3, sv_i (Xg85_l3 + 1)), (4, sv_i Xg52_l4)]) (st' := []) rfl ?_
                    refine sv_goto C.1 C.2.1 (off := (-52)) (tgt := 71) (by decide +kernel) (by decide) ?_
                    exact ih88 (Xg85_l3 + 1) (Xg85_fa_9 + 1) σ112 ⟨by omega, by omega⟩ ⟨by omega, by omega⟩ hok111 hI113 hF114 t115 t116 t117 t125 t118 (by omega) (by omega)
            exact L87 (((60 - Xg52_l3 : Int)).toNat + 1) Xg52_l3 Xg52_fa_9 σ53 ⟨by omega, by omega⟩ ⟨by omega, by omega⟩ okσ53 Iσ53 Fσ53 eσ53_0 eσ53_1 eσ53_2 eσ53_3 ev57 (by omega) (by omega)
          · refine sv_go C.1 C.2.1 [(.aload_n 0, 1)] (pc' := 65) (by decide +kernel) rfl (lv' := [(0, sv_r a), (2, sv_i (365 + dy_lp y)), (3, sv_i Xg52_l3), (4, sv_i Xg52_l4)]) (st' := [sv_r a]) rfl ?_
            refine sv_gf C (index := 56) (ci := 3) (k := 9) (r := (RX4, TX4, 11)) (v := sv_i Xg52_fa_9) (by decide +kernel) (by rw [k_a]; rfl) rfl (by decide) fl_X4_56 (congrArg sv_i eσ53_3) ?_
            refine sv_if C.1 C.2.1 (cnd := .le) (off := 81) (tgt := 149) (by decide +kernel) (by decide) ⟨by omega, by omega⟩ (fun (h126 : Xg52_fa_9 ≤ 0) => ?_) (fun (h126 : ¬ (Xg52_fa_9 ≤ 0)) => ?_)
            · exact sv_vret C hr (by decide +kernel) okσ53 (⟨rfl, Iσ53, Fσ53⟩)
            · have J129 : ∀ (Yg127_l3 : Int) (Yg127_fa_9 : Int) (σ128 : Nat → Nat → Int), (1 ≤ Yg127_l3 ∧ Yg127_l3 ≤ 60) → (1 ≤ Yg127_fa_9 ∧ Yg127_fa_9 ≤ 60) → (sv_ok ty σ128) → (sv_inv sp_1 ty σ128) → (sv_ofx [(4, 7), (4, 8), (4, 9), (4, 10)] [24, 25, 26, 27, 28, 29] ty σ σ128) → (σ128 a 10 = y) → (σ128 a 8 = dy_ea y) → (σ128 a 1 = (v20 : Int) + 1) → (σ128 a 9 = Yg127_fa_9) → (σ128 a 7 = v57) → (Yg127_fa_9 ≤ Yg127_l3) → sv_E p l e { frames := 5, cells := 0, slots := 0, locals := 110 } s m args below meth c 5 g A ty (fun r σ' => (r = []) ∧ sv_inv sp_1 ty σ' ∧ sv_ofx [(4, 7), (4, 8), (4, 9), (4, 10)] [24, 25, 26, 27, 28, 29] ty σ σ') σ128 126 [(0, sv_r a), (2, sv_i (365 + dy_lp y)), (3, sv_i Yg127_l3), (4, sv_i Xg52_l4)] [] := by
                intro Yg127_l3 Yg127_fa_9 σ128 hYg127_l3 hYg127_fa_9 okσ128 Iσ128 Fσ128 eσ128_0 eσ128_1 eσ128_2 eσ128_3 eσ128_4 hu9
                refine sv_go C.1 C.2.1 [(.aload_n 0, 1)] (pc' := 127) (by decide +kernel) rfl (lv' := [(0, sv_r a), (2, sv_i (365 + dy_lp y)), (3, sv_i Yg127_l3), (4, sv_i Xg52_l4)]) (st' := [sv_r a]) rfl ?_
                refine sv_gf C (index := 56) (ci := 3) (k := 9) (r := (RX4, TX4, 11)) (v := sv_i Yg127_fa_9) (by decide +kernel) (by rw [k_a]; rfl) rfl (by decide) fl_X4_56 (congrArg sv_i eσ128_3) ?_
                refine sv_if_f C.1 C.2.1 (cnd := .le) (off := 13) (tgt := 143) (by decide +kernel) (by decide) ⟨by omega, by omega⟩ (show ¬ (Yg127_fa_9 ≤ 0) by omega) ?_
                refine sv_go C.1 C.2.1 [(.aload_n 0, 1), (.iload 4, 2)] (pc' := 136) (by decide +kernel) rfl (lv' := [(0, sv_r a), (2, sv_i (365 + dy_lp y)), (3, sv_i Yg127_l3), (4, sv_i Xg52_l4)]) (st' := [sv_i Xg52_l4, sv_r a]) rfl ?_
                refine sv_cv C (index := 69) (k := 1) (rest := []) (ci := 3) (r := (RX4, TX4, 11)) (by decide +kernel) (sf_X4_holdBest l g A ty σ128 okσ128 hTA Iσ128 a k_a (Xg52_l4) ⟨by omega, by omega⟩) ⟨co_X4_holdBest, in_X4, ⟨by decide, by decide, by decide +kernel⟩, Nat.le_of_ble_eq_true rfl, Nat.le_of_ble_eq_true rfl⟩ ml_X4_69 im_X4_holdBest se_X4_holdBest (by rw [k_a]; rfl) rfl rfl rfl (Nat.le_of_ble_eq_true rfl) ⟨Nat.zero_le _, Nat.zero_le _⟩ (fun r131 σ132 hpo130 hok133 => ?_)
                obtain ⟨rfl, hIu134, hFu134⟩ := hpo130
                have hGu134 := Fσ128.tr hFu134 (by decide) (by decide)
                have t135 : σ132 a 10 = y := (hFu134.at k_a (by decide) (by decide)).trans eσ128_0
                have t136 : σ132 a 8 = dy_ea y := (hFu134.at k_a (by decide) (by decide)).trans eσ128_1
                have t137 : σ132 a 1 = (v20 : Int) + 1 := (hFu134.at k_a (by decide) (by decide)).trans eσ128_2
                have t138 : σ132 a 9 = Yg127_fa_9 := (hFu134.at k_a (by decide) (by decide)).trans eσ128_3
                have t139 : σ132 a 7 = v57 := (hFu134.at k_a (by decide) (by decide)).trans eσ128_4
                refine sv_same (st2 := []) (lv2 := [(0, sv_r a), (2, sv_i (365 + dy_lp y)), (3, sv_i Yg127_l3), (4, sv_i Xg52_l4)]) rfl rfl ?_
                refine sv_go C.1 C.2.1 [(.aload_n 0, 1)] (pc' := 140) (by decide +kernel) rfl (lv' := [(0, sv_r a), (2, sv_i (365 + dy_lp y)), (3, sv_i Yg127_l3), (4, sv_i Xg52_l4)]) (st' := [sv_r a]) rfl ?_
                refine sv_cv C (index := 72) (k := 0) (rest := []) (ci := 3) (r := (RX4, TX4, 11)) (by decide +kernel) (sf_X4_moveOthersOn l g A ty σ132 hok133 hTA hIu134 a k_a) ⟨co_X4_moveOthersOn, in_X4, ⟨by decide, by decide, by decide +kernel⟩, Nat.le_of_ble_eq_true rfl, Nat.le_of_ble_eq_true rfl⟩ ml_X4_72 im_X4_moveOthersOn se_X4_moveOthersOn (by rw [k_a]; rfl) rfl rfl rfl (Nat.le_of_ble_eq_true rfl) ⟨Nat.zero_le _, Nat.zero_le _⟩ (fun r141 σ142 hpo140 hok143 => ?_)
                obtain ⟨rfl, hIu144, hFu144, xu144⟩ := hpo140
                have hGu144 := hGu134.tr hFu144 (by decide) (by decide)
                have t145 : σ142 a 10 = y := (hFu144.at k_a (by decide) (by decide)).trans t135
                have t146 : σ142 a 8 = dy_ea y := (hFu144.at k_a (by decide) (by decide)).trans t136
                have t147 : σ142 a 1 = (v20 : Int) + 1 := (hFu144.at k_a (by decide) (by decide)).trans t137
                have t148 : σ142 a 7 = v57 := (hFu144.at k_a (by decide) (by decide)).trans t139
                obtain ⟨wu144, ewu144, hwu144⟩ := sv_rdn hIu144 (k := 9) k_a rfl
                refine sv_same (st2 := []) (lv2 := [(0, sv_r a), (2, sv_i (365 + dy_lp y)), (3, sv_i Yg127_l3), (4, sv_i Xg52_l4)]) rfl rfl ?_
                refine sv_go C.1 C.2.1 [(.iinc 4 1, 3)] (pc' := 146) (by decide +kernel) rfl (lv' := [(0, sv_r a), (2, sv_i (365 + dy_lp y)), (3, sv_i Yg127_l3), (4, sv_i (Xg52_l4 + 1))]) (st' := []) rfl ?_
                refine sv_goto C.1 C.2.1 (off := (-96)) (tgt := 50) (by decide +kernel) (by decide) ?_
                exact ih55 Yg127_l3 (Xg52_l4 + 1) wu144 σ142 ⟨by omega, by omega⟩ ⟨by omega, by omega⟩ ⟨by omega, by omega⟩ hok143 hIu144 hGu144 t145 t146 t147 ewu144 (by omega) (by omega)
              have L151 : ∀ (n : Nat) (Xg149_l3 : Int) (Xg149_fa_9 : Int) (σ150 : Nat → Nat → Int), (1 ≤ Xg149_l3 ∧ Xg149_l3 ≤ 60) → (1 ≤ Xg149_fa_9 ∧ Xg149_fa_9 ≤ 60) → (sv_ok ty σ150) → (sv_inv sp_1 ty σ150) → (sv_ofx [(4, 7), (4, 8), (4, 9), (4, 10)] [24, 25, 26, 27, 28, 29] ty σ σ150) → (σ150 a 10 = y) → (σ150 a 8 = dy_ea y) → (σ150 a 1 = (v20 : Int) + 1) → (σ150 a 9 = Xg149_fa_9) → (σ150 a 7 = v57) → (Xg149_fa_9 ≤ Xg149_l3) → (60 - Xg149_l3) < (n : Int) → sv_E p l e { frames := 5, cells := 0, slots := 0, locals := 110 } s m args below meth c 5 g A ty (fun r σ' => (r = []) ∧ sv_inv sp_1 ty σ' ∧ sv_ofx [(4, 7), (4, 8), (4, 9), (4, 10)] [24, 25, 26, 27, 28, 29] ty σ σ') σ150 71 [(0, sv_r a), (2, sv_i (365 + dy_lp y)), (3, sv_i Xg149_l3), (4, sv_i Xg52_l4)] [] := by
                intro n
                induction n with
                | zero => intro Xg149_l3 Xg149_fa_9 σ150 hXg149_l3 hXg149_fa_9 okσ150 Iσ150 Fσ150 eσ150_0 eσ150_1 eσ150_2 eσ150_3 eσ150_4 hv9 hmu; exact absurd hmu (by omega)
                | succ n ih152 =>
                  intro Xg149_l3 Xg149_fa_9 σ150 hXg149_l3 hXg149_fa_9 okσ150 Iσ150 Fσ150 eσ150_0 eσ150_1 eσ150_2 eσ150_3 eσ150_4 hv9 hmu
                  refine sv_go C.1 C.2.1 [(.iload_n 3, 1), (.aload_n 0, 1)] (pc' := 73) (by decide +kernel) rfl (lv' := [(0, sv_r a), (2, sv_i (365 + dy_lp y)), (3, sv_i Xg149_l3), (4, sv_i Xg52_l4)]) (st' := [sv_r a, sv_i Xg149_l3]) rfl ?_
                  refine sv_gf C (index := 66) (ci := 3) (k := 7) (r := (RX4, TX4, 11)) (v := sv_i v57) (by decide +kernel) (by rw [k_a]; rfl) rfl (by decide) fl_X4_66 (congrArg sv_i eσ150_4) ?_
                  refine sv_icmp C.1 C.2.1 (cnd := .ge) (off := 50) (tgt := 126) (by decide +kernel) (by decide) ⟨by omega, by omega⟩ ⟨by omega, by omega⟩ (fun (h153 : v57 ≤ Xg149_l3) => ?_) (fun (h153 : ¬ (v57 ≤ Xg149_l3)) => ?_)
                  · exact J129 Xg149_l3 Xg149_fa_9 σ150 ⟨by omega, by omega⟩ ⟨by omega, by omega⟩ okσ150 Iσ150 Fσ150 eσ150_0 eσ150_1 eσ150_2 eσ150_3 eσ150_4 (by omega)
                  · refine sv_go C.1 C.2.1 [(.aload_n 0, 1)] (pc' := 80) (by decide +kernel) rfl (lv' := [(0, sv_r a), (2, sv_i (365 + dy_lp y)), (3, sv_i Xg149_l3), (4, sv_i Xg52_l4)]) (st' := [sv_r a]) rfl ?_
                    obtain ⟨v154, ev154, kv154⟩ := Iσ150.ref (k := 3) k_a rfl
                    refine sv_gf C (index := 25) (ci := 3) (k := 3) (r := (RX4, TX4, 11)) (v := sv_r v154) (by decide +kernel) (by rw [k_a]; rfl) rfl (by decide) fl_X4_25 (congrArg sv_a ev154) ?_
                    refine sv_go C.1 C.2.1 [(.aload_n 0, 1)] (pc' := 84) (by decide +kernel) rfl (lv' := [(0, sv_r a), (2, sv_i (365 + dy_lp y)), (3, sv_i Xg149_l3), (4, sv_i Xg52_l4)]) (st' := [sv_r a, sv_r v154]) rfl ?_
                    obtain ⟨v155, ev155, kv155⟩ := Iσ150.ref (k := 5) k_a rfl
                    refine sv_gf C (index := 31) (ci := 3) (k := 5) (r := (RX4, TX4, 11)) (v := sv_r v155) (by decide +kernel) (by rw [k_a]; rfl) rfl (by decide) fl_X4_31 (congrArg sv_a ev155) ?_
                    refine sv_go C.1 C.2.1 [(.iload_n 3, 1)] (pc' := 88) (by decide +kernel) rfl (lv' := [(0, sv_r a), (2, sv_i (365 + dy_lp y)), (3, sv_i Xg149_l3), (4, sv_i Xg52_l4)]) (st' := [sv_i Xg149_l3, sv_r v155, sv_r v154]) rfl ?_
                    refine sv_ia C (n := 60) (by decide +kernel) (by rw [kv155]; rfl) (by decide) (by omega) (by omega) ?_
                    obtain ⟨v156, ev156, hv156⟩ := sv_rdn Iσ150 (k := (Xg149_l3 : Int).toNat) kv155 rfl
                    rw [ev156]
                    refine sv_ia C (n := 60) (by decide +kernel) (by rw [kv154]; rfl) (by decide) (by omega) (by omega) ?_
                    obtain ⟨v157, ev157, hv157⟩ := sv_rde okσ150 (a := v154) (k := (v156 : Int).toNat) (n := 60) (by rw [kv154]; rfl) (by omega)
                    rw [ev157]
                    refine sv_go C.1 C.2.1 [(.iload 4, 2)] (pc' := 92) (by decide +kernel) rfl (lv' := [(0, sv_r a), (2, sv_i (365 + dy_lp y)), (3, sv_i Xg149_l3), (4, sv_i Xg52_l4)]) (st' := [sv_i Xg52_l4, sv_i v157]) rfl ?_
                    refine sv_icmp C.1 C.2.1 (cnd := .ne) (off := 34) (tgt := 126) (by decide +kernel) (by decide) ⟨by omega, by omega⟩ ⟨by omega, by omega⟩ (fun (h158 : v157 ≠ Xg52_l4) => ?_) (fun (h158 : ¬ (v157 ≠ Xg52_l4)) => ?_)
                    · exact J129 Xg149_l3 Xg149_fa_9 σ150 ⟨by omega, by omega⟩ ⟨by omega, by omega⟩ okσ150 Iσ150 Fσ150 eσ150_0 eσ150_1 eσ150_2 eσ150_3 eσ150_4 (by omega)
                    · refine sv_go C.1 C.2.1 [(.aload_n 0, 1)] (pc' := 96) (by decide +kernel) rfl (lv' := [(0, sv_r a), (2, sv_i (365 + dy_lp y)), (3, sv_i Xg149_l3), (4, sv_i Xg52_l4)]) (st' := [sv_r a]) rfl ?_
                      obtain ⟨v159, ev159, kv159⟩ := Iσ150.ref (k := 6) k_a rfl
                      refine sv_gf C (index := 34) (ci := 3) (k := 6) (r := (RX4, TX4, 11)) (v := sv_r v159) (by decide +kernel) (by rw [k_a]; rfl) rfl (by decide) fl_X4_34 (congrArg sv_a ev159) ?_
                      refine sv_go C.1 C.2.1 [(.aload_n 0, 1)] (pc' := 100) (by decide +kernel) rfl (lv' := [(0, sv_r a), (2, sv_i (365 + dy_lp y)), (3, sv_i Xg149_l3), (4, sv_i Xg52_l4)]) (st' := [sv_r a, sv_r v159]) rfl ?_
                      refine sv_gf C (index := 56) (ci := 3) (k := 9) (r := (RX4, TX4, 11)) (v := sv_i Xg149_fa_9) (by decide +kernel) (by rw [k_a]; rfl) rfl (by decide) fl_X4_56 (congrArg sv_i eσ150_3) ?_
                      refine sv_go C.1 C.2.1 [(.aload_n 0, 1)] (pc' := 104) (by decide +kernel) rfl (lv' := [(0, sv_r a), (2, sv_i (365 + dy_lp y)), (3, sv_i Xg149_l3), (4, sv_i Xg52_l4)]) (st' := [sv_r a, sv_i Xg149_fa_9, sv_r v159]) rfl ?_
                      refine sv_gf C (index := 31) (ci := 3) (k := 5) (r := (RX4, TX4, 11)) (v := sv_r v155) (by decide +kernel) (by rw [k_a]; rfl) rfl (by decide) fl_X4_31 (congrArg sv_a ev155) ?_
                      refine sv_go C.1 C.2.1 [(.iload_n 3, 1)] (pc' := 108) (by decide +kernel) rfl (lv' := [(0, sv_r a), (2, sv_i (365 + dy_lp y)), (3, sv_i Xg149_l3), (4, sv_i Xg52_l4)]) (st' := [sv_i Xg149_l3, sv_r v155, sv_i Xg149_fa_9, sv_r v159]) rfl ?_
                      refine sv_ia C (n := 60) (by decide +kernel) (by rw [kv155]; rfl) (by decide) (by omega) (by omega) ?_
                      rw [ev156]
                      refine sv_is C (n := 60) (by decide +kernel) (by rw [kv159]; rfl) (by decide) (by omega) (by omega) ⟨by omega, by omega⟩ (hTA _ (by rw [kv159]; decide)) okσ150 (fun hok160 => ?_)
                      have hI162 := Iσ150.up (a := v159) (k := (Xg149_fa_9 : Int).toNat) (z := v156) (by rw [kv159]; exact ⟨by omega, by omega⟩)
                      have hF163 := Fσ150.up (a := v159) (k := (Xg149_fa_9 : Int).toNat) (z := v156) (Or.inl (by rw [kv159]; decide))
                      generalize eσ161 : sv_up σ150 v159 (Xg149_fa_9 : Int).toNat v156 = σ161 at hok160 hI162 hF163 ⊢
                      have t164 : σ161 a 10 = y := by rw [← eσ161, sv_up_a (sv_ne k_a kv159 (by decide))]; exact eσ150_0
                      have t165 : σ161 a 8 = dy_ea y := by rw [← eσ161, sv_up_a (sv_ne k_a kv159 (by decide))]; exact eσ150_1
                      have t166 : σ161 a 1 = (v20 : Int) + 1 := by rw [← eσ161, sv_up_a (sv_ne k_a kv159 (by decide))]; exact eσ150_2
                      have t167 : σ161 a 9 = Xg149_fa_9 := by rw [← eσ161, sv_up_a (sv_ne k_a kv159 (by decide))]; exact eσ150_3
                      have t168 : σ161 a 7 = v57 := by rw [← eσ161, sv_up_a (sv_ne k_a kv159 (by decide))]; exact eσ150_4
                      have t169 : σ161 a 3 = (v154 : Int) + 1 := by rw [← eσ161, sv_up_a (sv_ne k_a kv159 (by decide))]; exact ev154
                      have t170 : σ161 a 5 = (v155 : Int) + 1 := by rw [← eσ161, sv_up_a (sv_ne k_a kv159 (by decide))]; exact ev155
                      have t171 : σ161 v155 (Xg149_l3 : Int).toNat = v156 := by rw [← eσ161, sv_up_a (sv_ne kv155 kv159 (by decide))]; exact ev156
                      have t172 : σ161 v154 (v156 : Int).toNat = v157 := by rw [← eσ161, sv_up_a (sv_ne kv154 kv159 (by decide))]; exact ev157
                      have t173 : σ161 a 6 = (v159 : Int) + 1 := by rw [← eσ161, sv_up_a (sv_ne k_a kv159 (by decide))]; exact ev159
                      have t174 : σ161 v159 (Xg149_fa_9 : Int).toNat = v156 := by rw [← eσ161]; exact sv_up_s _ _ _ _
                      refine sv_go C.1 C.2.1 [(.aload_n 0, 1), (.dup, 1)] (pc' := 112) (by decide +kernel) rfl (lv' := [(0, sv_r a), (2, sv_i (365 + dy_lp y)), (3, sv_i Xg149_l3), (4, sv_i Xg52_l4)]) (st' := [sv_r a, sv_r a]) rfl ?_
                      refine sv_gf C (index := 56) (ci := 3) (k := 9) (r := (RX4, TX4, 11)) (v := sv_i Xg149_fa_9) (by decide +kernel) (by rw [k_a]; rfl) rfl (by decide) fl_X4_56 (congrArg sv_i t167) ?_
                      refine sv_go C.1 C.2.1 [(.iconst 1, 1), (.iadd, 1)] (pc' := 117) (by decide +kernel) rfl (lv' := [(0, sv_r a), (2, sv_i (365 + dy_lp y)), (3, sv_i Xg149_l3), (4, sv_i Xg52_l4)]) (st' := [sv_i (Xg149_fa_9 + 1), sv_r a]) rfl ?_
                      refine sv_pf C (index := 56) (ci := 3) (k := 9) (r := (RX4, TX4, 11)) (z := Xg149_fa_9 + 1) (by decide +kernel) (by rw [k_a]; rfl) rfl (by decide) rfl fl_X4_56 rfl (Or.inl rfl) ⟨by omega, by omega⟩ (hTA _ (by rw [k_a]; decide)) hok160 (fun hok175 => ?_)
                      have hI177 := hI162.up (a := a) (k := 9) (z := Xg149_fa_9 + 1) (by rw [k_a]; exact ⟨by omega, by omega⟩)
                      have hF178 := hF163.up (a := a) (k := 9) (z := Xg149_fa_9 + 1) (Or.inr (by rw [k_a]; decide))
                      generalize eσ176 : sv_up σ161 a 9 (Xg149_fa_9 + 1) = σ176 at hok175 hI177 hF178 ⊢
                      have t179 : σ176 a 10 = y := by rw [← eσ176, sv_up_k (by decide)]; exact t164
                      have t180 : σ176 a 8 = dy_ea y := by rw [← eσ176, sv_up_k (by decide)]; exact t165
                      have t181 : σ176 a 1 = (v20 : Int) + 1 := by rw [← eσ176, sv_up_k (by decide)]; exact t166
                      have t182 : σ176 a 7 = v57 := by rw [← eσ176, sv_up_k (by decide)]; exact t168
                      have t183 : σ176 a 3 = (v154 : Int) + 1 := by rw [← eσ176, sv_up_k (by decide)]; exact t169
                      have t184 : σ176 a 5 = (v155 : Int) + 1 := by rw [← eσ176, sv_up_k (by decide)]; exact t170
                      have t185 : σ176 v155 (Xg149_l3 : Int).toNat = v156 := by rw [← eσ176, sv_up_a (sv_ne kv155 k_a (by decide))]; exact t171
                      have t186 : σ176 v154 (v156 : Int).toNat = v157 := by rw [← eσ176, sv_up_a (sv_ne kv154 k_a (by decide))]; exact t172
                      have t187 : σ176 a 6 = (v159 : Int) + 1 := by rw [← eσ176, sv_up_k (by decide)]; exact t173
                      have t188 : σ176 v159 (Xg149_fa_9 : Int).toNat = v156 := by rw [← eσ176, sv_up_a (sv_ne kv159 k_a (by decide))]; exact t174
                      have t189 : σ176 a 9 = Xg149_fa_9 + 1 := by rw [← eσ176]; exact sv_up_s _ _ _ _
                      refine sv_go C.1 C.2.1 [(.iinc 3 1, 3)] (pc' := 123) (by decide +kernel) rfl (lv' := [(0, sv_r a), (2, sv_i (365 + dy_lp y)), (3, sv_i (Xg149_l3 + 1)), (4, sv_i Xg52_l4)]) (st' := []) rfl ?_
                      refine sv_goto C.1 C.2.1 (off := (-52)) (tgt := 71) (by decide +kernel) (by decide) ?_
                      exact ih152 (Xg149_l3 + 1) (Xg149_fa_9 + 1) σ176 ⟨by omega, by omega⟩ ⟨by omega, by omega⟩ hok175 hI177 hF178 t179 t180 t181 t189 t182 (by omega) (by omega)
              exact L151 (((60 - Xg52_l3 : Int)).toNat + 1) Xg52_l3 Xg52_fa_9 σ53 ⟨by omega, by omega⟩ ⟨by omega, by omega⟩ okσ53 Iσ53 Fσ53 eσ53_0 eσ53_1 eσ53_2 eσ53_3 ev57 (by omega) (by omega)
    refine sv_pick [0, 2, 3, 4] (lv2 := [(0, sv_r a), (2, sv_i (365 + dy_lp y)), (3, sv_i 0), (4, sv_i 0)]) rfl ?_
    exact L54 (((366 - 0 : Int)).toNat + 1) 0 0 0 σ39 ⟨by omega, by omega⟩ ⟨by omega, by omega⟩ ⟨by omega, by omega⟩ hok49 hIu41 hGu41 t42 t43 t44 t45 (by omega) (by omega)
  · exact sv_vret C hr (by decide +kernel) hok (⟨rfl, hI, hF⟩)

theorem ml_X4_108 : Cond.methodLink RX4 108 yX4_feastHeldOn ∈ lw_good := sv_mem 740 (by decide +kernel) rfl
theorem co_X4_feastHeldOn : Cond.code yX4_feastHeldOn cX4_feastHeldOn 2 (some (.object "SaintsRoad$Feast")) ∈ lw_good := sv_mem 743 (by decide +kernel) rfl
theorem im_X4_feastHeldOn : Cond.instanceMethod yX4_feastHeldOn ∈ lw_good := sv_mem 741 (by decide +kernel) rfl
theorem se_X4_feastHeldOn : Cond.selects RX4 yX4_feastHeldOn yX4_feastHeldOn ∈ lw_good := sv_mem 742 (by decide +kernel) rfl
theorem fl_X4_112 : Cond.fieldLink RX4 112 "SaintsRoad$Feast" "octave" "Z" ∈ lw_good := sv_mem 207 (by decide +kernel) rfl
theorem ml_X4_116 : Cond.methodLink RX4 116 yX2_isSunday ∈ lw_good := sv_mem 744 (by decide +kernel) rfl
theorem co_X2_isSunday : Cond.code yX2_isSunday cX2_isSunday 2 (some .boolean) ∈ lw_good := sv_mem 746 (by decide +kernel) rfl
theorem st_X2_isSunday : Cond.static yX2_isSunday ∈ lw_good := sv_mem 745 (by decide +kernel) rfl
set_option maxHeartbeats 4000000 in
set_option maxRecDepth 100000 in
theorem sf_X4_officeOf (l : Launch) (g : sv_G) (A : Nat → Prop) (ty : Nat → Nat) (σ : Nat → Nat → Int) (hok : sv_ok ty σ) (hTA : ∀ q, ty q ≠ 0 → A q) (hI : sv_inv sp_1 ty σ) (a : Nat) (k_a : ty a = 4) (d : Int) (h_d : 0 ≤ d ∧ d ≤ 365) : sv_M l yX4_officeOf cX4_officeOf 4 (some .int) { frames := 3, cells := 0, slots := 0, locals := 62 } g A ty σ [sv_r a, sv_i d] (fun r σ' => σ = σ' ∧ ∃ rv : Int, r = [sv_i rv] ∧ ((-79) ≤ rv ∧ rv ≤ 59)) := by
  refine sv_enter (by decide) (Nat.le_of_ble_eq_true rfl) ?_
  intro p e s m args below meth c C hr
  have C : sv_C g A RX4 cX4_officeOf 4 p s m args meth c := C
  have hr : meth.sig.returnType = (some .int) := hr
  have hF : sv_ofx [] [] ty σ σ := sv_ofx.rf
  refine sv_same (st2 := []) (lv2 := [(0, sv_r a), (1, sv_i d)]) rfl rfl ?_
  refine sv_go C.1 C.2.1 [(.aload_n 0, 1), (.iload_n 1, 1)] (pc' := 2) (by decide +kernel) rfl (lv' := [(0, sv_r a), (1, sv_i d)]) (st' := [sv_i d, sv_r a]) rfl ?_
  refine sv_cv C (index := 108) (k := 1) (rest := []) (ci := 3) (r := (RX4, TX4, 11)) (by decide +kernel) (sf_X4_feastHeldOn l g A ty σ hok hTA hI a k_a (d) ⟨by omega, by omega⟩) ⟨co_X4_feastHeldOn, in_X4, ⟨by decide, by decide, by decide +kernel⟩, Nat.le_of_ble_eq_true rfl, Nat.le_of_ble_eq_true rfl⟩ ml_X4_108 im_X4_feastHeldOn se_X4_feastHeldOn (by rw [k_a]; rfl) rfl rfl rfl (Nat.le_of_ble_eq_true rfl) ⟨Nat.zero_le _, Nat.zero_le _⟩ (fun r2 σ3 hpo1 hok4 => ?_)
  obtain ⟨rfl, ⟨zu5, rfl, hzu5⟩⟩ := hpo1
  refine sv_same (st2 := [sv_a zu5]) (lv2 := [(0, sv_r a), (1, sv_i d)]) rfl rfl ?_
  rcases hzu5 with rfl | ⟨q6, rfl, kq6, pq6⟩
  · refine sv_ifnull C.1 C.2.1 (off := 10) (tgt := 15) (by decide +kernel) (by decide) (by omega) (fun _ => ?_) (fun (h7 : 0 < (0 : Int)) => absurd h7 (by omega))
    refine sv_go C.1 C.2.1 [(.iconst 1, 1), (.istore_n 2, 1)] (pc' := 17) (by decide +kernel) rfl (lv' := [(0, sv_r a), (1, sv_i d), (2, sv_i 1)]) (st' := []) rfl ?_
    have L9 : ∀ (n : Nat) (Xg8_l2 : Int), (1 ≤ Xg8_l2 ∧ Xg8_l2 ≤ 8) → (8 - Xg8_l2) < (n : Int) → sv_E p l e { frames := 3, cells := 0, slots := 0, locals := 62 } s m args below meth c 4 g A ty (fun r σ' => σ = σ' ∧ ∃ rv : Int, r = [sv_i rv] ∧ ((-79) ≤ rv ∧ rv ≤ 59)) σ 17 [(0, sv_r a), (1, sv_i d), (2, sv_i Xg8_l2)] [] := by
      intro n
      induction n with
      | zero => intro Xg8_l2 hXg8_l2 hmu; exact absurd hmu (by omega)
      | succ n ih10 =>
        intro Xg8_l2 hXg8_l2 hmu
        refine sv_go C.1 C.2.1 [(.iload_n 2, 1), (.bipush 7, 2)] (pc' := 20) (by decide +kernel) rfl (lv' := [(0, sv_r a), (1, sv_i d), (2, sv_i Xg8_l2)]) (st' := [sv_i 7, sv_i Xg8_l2]) rfl ?_
        refine sv_icmp C.1 C.2.1 (cnd := .gt) (off := 40) (tgt := 60) (by decide +kernel) (by decide) ⟨by omega, by omega⟩ ⟨by omega, by omega⟩ (fun (h11 : 7 < Xg8_l2) => ?_) (fun (h11 : ¬ (7 < Xg8_l2)) => ?_)
        · refine sv_go C.1 C.2.1 [(.aload_n 0, 1)] (pc' := 61) (by decide +kernel) rfl (lv' := [(0, sv_r a), (1, sv_i d), (2, sv_i Xg8_l2)]) (st' := [sv_r a]) rfl ?_
          obtain ⟨v12, ev12, hv12⟩ := sv_rdn hI (k := 10) k_a rfl
          refine sv_gf C (index := 37) (ci := 3) (k := 10) (r := (RX4, TX4, 11)) (v := sv_i v12) (by decide +kernel) (by rw [k_a]; rfl) rfl (by decide) fl_X4_37 (congrArg sv_i ev12) ?_
          refine sv_go C.1 C.2.1 [(.iload_n 1, 1)] (pc' := 65) (by decide +kernel) rfl (lv' := [(0, sv_r a), (1, sv_i d), (2, sv_i Xg8_l2)]) (st' := [sv_i d, sv_i v12]) rfl ?_
          refine sv_cs C (index := 116) (k := 2) (rest := []) (by decide +kernel) (sf_X2_isSunday l g A ty σ hok4 hTA hI (v12) ⟨by omega, by omega⟩ (d) ⟨by omega, by omega⟩) ⟨co_X2_isSunday, in_X2, ⟨by decide, by decide, by decide +kernel⟩, Nat.le_of_ble_eq_true rfl, Nat.le_of_ble_eq_true rfl⟩ ml_X4_116 st_X2_isSunday rfl rfl (Nat.le_of_ble_eq_true rfl) ⟨Nat.zero_le _, Nat.zero_le _⟩ (fun r14 σ15 hpo13 hok16 => ?_)
          obtain ⟨rfl, ⟨vu17, rfl, hvu17⟩⟩ := hpo13
          refine sv_same (st2 := [sv_i vu17]) (lv2 := [(0, sv_r a), (1, sv_i d), (2, sv_i Xg8_l2)]) rfl rfl ?_
          refine sv_if C.1 C.2.1 (cnd := .eq) (off := 8) (tgt := 76) (by decide +kernel) (by decide) ⟨by omega, by omega⟩ (fun (h18 : vu17 = 0) => ?_) (fun (h18 : ¬ (vu17 = 0)) => ?_)
          · refine sv_go C.1 C.2.1 [(.bipush (-10), 2)] (pc' := 78) (by decide +kernel) rfl (lv' := [(0, sv_r a), (1, sv_i d), (2, sv_i Xg8_l2)]) (st' := [sv_i ((-10))]) rfl ?_
            exact sv_iret C hr (by decide +kernel) hok16 (⟨rfl, ⟨_, rfl, ⟨by omega, by omega⟩⟩⟩)
          · refine sv_go C.1 C.2.1 [(.bipush (-11), 2)] (pc' := 73) (by decide +kernel) rfl (lv' := [(0, sv_r a), (1, sv_i d), (2, sv_i Xg8_l2)]) (st' := [sv_i ((-11))]) rfl ?_
            refine sv_goto C.1 C.2.1 (off := 5) (tgt := 78) (by decide +kernel) (by decide) ?_
            exact sv_iret C hr (by decide +kernel) hok16 (⟨rfl, ⟨_, rfl, ⟨by omega, by omega⟩⟩⟩)
        · refine sv_go C.1 C.2.1 [(.aload_n 0, 1), (.iload_n 1, 1), (.iload_n 2, 1), (.isub, 1)] (pc' := 27) (by decide +kernel) rfl (lv' := [(0, sv_r a), (1, sv_i d), (2, sv_i Xg8_l2)]) (st' := [sv_i (d - Xg8_l2), sv_r a]) rfl ?_
          refine sv_cv C (index := 108) (k := 1) (rest := []) (ci := 3) (r := (RX4, TX4, 11)) (by decide +kernel) (sf_X4_feastHeldOn l g A ty σ hok4 hTA hI a k_a (d - Xg8_l2) ⟨by omega, by omega⟩) ⟨co_X4_feastHeldOn, in_X4, ⟨by decide, by decide, by decide +kernel⟩, Nat.le_of_ble_eq_true rfl, Nat.le_of_ble_eq_true rfl⟩ ml_X4_108 im_X4_feastHeldOn se_X4_feastHeldOn (by rw [k_a]; rfl) rfl rfl rfl (Nat.le_of_ble_eq_true rfl) ⟨Nat.zero_le _, Nat.zero_le _⟩ (fun r20 σ21 hpo19 hok22 => ?_)
          obtain ⟨rfl, ⟨zu23, rfl, hzu23⟩⟩ := hpo19
          refine sv_same (st2 := [sv_a zu23]) (lv2 := [(0, sv_r a), (1, sv_i d), (2, sv_i Xg8_l2)]) rfl rfl ?_
          refine sv_go C.1 C.2.1 [(.astore_n 3, 1), (.aload_n 3, 1)] (pc' := 32) (by decide +kernel) rfl (lv' := [(0, sv_r a), (1, sv_i d), (2, sv_i Xg8_l2), (3, sv_a zu23)]) (st' := [sv_a zu23]) rfl ?_
          rcases hzu23 with rfl | ⟨q24, rfl, kq24, pq24⟩
          · refine sv_ifnull C.1 C.2.1 (off := 22) (tgt := 54) (by decide +kernel) (by decide) (by omega) (fun _ => ?_) (fun (h25 : 0 < (0 : Int)) => absurd h25 (by omega))
            refine sv_go C.1 C.2.1 [(.iinc 2 1, 3)] (pc' := 57) (by decide +kernel) rfl (lv' := [(0, sv_r a), (1, sv_i d), (2, sv_i (Xg8_l2 + 1)), (3, sv_a 0)]) (st' := []) rfl ?_
            refine sv_goto C.1 C.2.1 (off := (-40)) (tgt := 17) (by decide +kernel) (by decide) ?_
            refine sv_pick [0, 1, 2] (lv2 := [(0, sv_r a), (1, sv_i d), (2, sv_i (Xg8_l2 + 1))]) rfl ?_
            exact ih10 (Xg8_l2 + 1) ⟨by omega, by omega⟩ (by omega)
          · refine sv_ifnull C.1 C.2.1 (off := 22) (tgt := 54) (by decide +kernel) (by decide) (by omega) (fun (h26 : (q24 : Int) + 1 = 0) => absurd h26 (by omega)) (fun _ => ?_)
            refine sv_go C.1 C.2.1 [(.aload_n 3, 1)] (pc' := 36) (by decide +kernel) rfl (lv' := [(0, sv_r a), (1, sv_i d), (2, sv_i Xg8_l2), (3, sv_r q24)]) (st' := [sv_r q24]) rfl ?_
            obtain ⟨v27, ev27, hv27⟩ := sv_rdkz hok22 (a := q24) (k := 9) (ci := 2) (r := (RX3, TX3, 12)) (by rw [kq24]; rfl) rfl (by decide) rfl
            refine sv_gf C (index := 112) (ci := 2) (k := 9) (r := (RX3, TX3, 12)) (v := sv_i v27) (by decide +kernel) (by rw [kq24]; rfl) rfl (by decide) fl_X4_112 (congrArg sv_i ev27) ?_
            refine sv_if C.1 C.2.1 (cnd := .eq) (off := 15) (tgt := 54) (by decide +kernel) (by decide) ⟨by omega, by omega⟩ (fun (h28 : v27 = 0) => ?_) (fun (h28 : ¬ (v27 = 0)) => ?_)
            · refine sv_go C.1 C.2.1 [(.iinc 2 1, 3)] (pc' := 57) (by decide +kernel) rfl (lv' := [(0, sv_r a), (1, sv_i d), (2, sv_i (Xg8_l2 + 1)), (3, sv_r q24)]) (st' := []) rfl ?_
              refine sv_goto C.1 C.2.1 (off := (-40)) (tgt := 17) (by decide +kernel) (by decide) ?_
              refine sv_pick [0, 1, 2] (lv2 := [(0, sv_r a), (1, sv_i d), (2, sv_i (Xg8_l2 + 1))]) rfl ?_
              exact ih10 (Xg8_l2 + 1) ⟨by omega, by omega⟩ (by omega)
            · refine sv_go C.1 C.2.1 [(.bipush (-20), 2), (.aload_n 0, 1)] (pc' := 45) (by decide +kernel) rfl (lv' := [(0, sv_r a), (1, sv_i d), (2, sv_i Xg8_l2), (3, sv_r q24)]) (st' := [sv_r a, sv_i ((-20))]) rfl ?_
              obtain ⟨v29, ev29, kv29⟩ := hI.ref (k := 1) k_a rfl
              refine sv_gf C (index := 15) (ci := 3) (k := 1) (r := (RX4, TX4, 11)) (v := sv_r v29) (by decide +kernel) (by rw [k_a]; rfl) rfl (by decide) fl_X4_15 (congrArg sv_a ev29) ?_
              refine sv_go C.1 C.2.1 [(.iload_n 1, 1), (.iload_n 2, 1), (.isub, 1)] (pc' := 51) (by decide +kernel) rfl (lv' := [(0, sv_r a), (1, sv_i d), (2, sv_i Xg8_l2), (3, sv_r q24)]) (st' := [sv_i (d - Xg8_l2), sv_r v29, sv_i ((-20))]) rfl ?_
              refine sv_ia C (n := 366) (by decide +kernel) (by rw [kv29]; rfl) (by decide) (by omega) (by omega) ?_
              obtain ⟨v30, ev30, hv30⟩ := sv_rdn hI (k := (d - Xg8_l2 : Int).toNat) kv29 rfl
              rw [ev30]
              refine sv_go C.1 C.2.1 [(.isub, 1)] (pc' := 53) (by decide +kernel) rfl (lv' := [(0, sv_r a), (1, sv_i d), (2, sv_i Xg8_l2), (3, sv_r q24)]) (st' := [sv_i (((-20)) - v30)]) rfl ?_
              exact sv_iret C hr (by decide +kernel) hok22 (⟨rfl, ⟨_, rfl, ⟨by omega, by omega⟩⟩⟩)
    exact L9 (((8 - 1 : Int)).toNat + 1) 1 ⟨by omega, by omega⟩ (by omega)
  · refine sv_ifnull C.1 C.2.1 (off := 10) (tgt := 15) (by decide +kernel) (by decide) (by omega) (fun (h31 : (q6 : Int) + 1 = 0) => absurd h31 (by omega)) (fun _ => ?_)
    refine sv_go C.1 C.2.1 [(.aload_n 0, 1)] (pc' := 9) (by decide +kernel) rfl (lv' := [(0, sv_r a), (1, sv_i d)]) (st' := [sv_r a]) rfl ?_
    obtain ⟨v32, ev32, kv32⟩ := hI.ref (k := 1) k_a rfl
    refine sv_gf C (index := 15) (ci := 3) (k := 1) (r := (RX4, TX4, 11)) (v := sv_r v32) (by decide +kernel) (by rw [k_a]; rfl) rfl (by decide) fl_X4_15 (congrArg sv_a ev32) ?_
    refine sv_go C.1 C.2.1 [(.iload_n 1, 1)] (pc' := 13) (by decide +kernel) rfl (lv' := [(0, sv_r a), (1, sv_i d)]) (st' := [sv_i d, sv_r v32]) rfl ?_
    refine sv_ia C (n := 366) (by decide +kernel) (by rw [kv32]; rfl) (by decide) (by omega) (by omega) ?_
    obtain ⟨v33, ev33, hv33⟩ := sv_rdn hI (k := (d : Int).toNat) kv32 rfl
    rw [ev33]
    exact sv_iret C hr (by decide +kernel) hok4 (⟨rfl, ⟨_, rfl, ⟨by omega, by omega⟩⟩⟩)

theorem fl_X4_126 : Cond.fieldLink RX4 126 "SaintsRoad$Calendar" "lent" "I" ∈ lw_good := sv_mem 260 (by decide +kernel) rfl
set_option maxHeartbeats 4000000 in
set_option maxRecDepth 100000 in
theorem sf_X4_isInLent (l : Launch) (g : sv_G) (A : Nat → Prop) (ty : Nat → Nat) (σ : Nat → Nat → Int) (hok : sv_ok ty σ) (hTA : ∀ q, ty q ≠ 0 → A q) (hI : sv_inv sp_1 ty σ) (a : Nat) (k_a : ty a = 4) (d : Int) (h_d : 0 ≤ d ∧ d ≤ 365) : sv_M l yX4_isInLent cX4_isInLent 2 (some .boolean) { frames := 0, cells := 0, slots := 0, locals := 0 } g A ty σ [sv_r a, sv_i d] (fun r σ' => σ = σ' ∧ ∃ rv : Int, r = [sv_i rv] ∧ (0 ≤ rv ∧ rv ≤ 1)) := by
  refine sv_enter (by decide) (Nat.le_of_ble_eq_true rfl) ?_
  intro p e s m args below meth c C hr
  have C : sv_C g A RX4 cX4_isInLent 2 p s m args meth c := C
  have hr : meth.sig.returnType = (some .boolean) := hr
  have hF : sv_ofx [] [] ty σ σ := sv_ofx.rf
  refine sv_same (st2 := []) (lv2 := [(0, sv_r a), (1, sv_i d)]) rfl rfl ?_
  refine sv_go C.1 C.2.1 [(.iload_n 1, 1), (.aload_n 0, 1)] (pc' := 2) (by decide +kernel) rfl (lv' := [(0, sv_r a), (1, sv_i d)]) (st' := [sv_r a, sv_i d]) rfl ?_
  obtain ⟨v1, ev1, hv1⟩ := sv_rdn hI (k := 8) k_a rfl
  refine sv_gf C (index := 47) (ci := 3) (k := 8) (r := (RX4, TX4, 11)) (v := sv_i v1) (by decide +kernel) (by rw [k_a]; rfl) rfl (by decide) fl_X4_47 (congrArg sv_i ev1) ?_
  refine sv_icmp C.1 C.2.1 (cnd := .ge) (off := 23) (tgt := 28) (by decide +kernel) (by decide) ⟨by omega, by omega⟩ ⟨by omega, by omega⟩ (fun (h2 : v1 ≤ d) => ?_) (fun (h2 : ¬ (v1 ≤ d)) => ?_)
  · refine sv_go C.1 C.2.1 [(.iconst 0, 1)] (pc' := 29) (by decide +kernel) rfl (lv' := [(0, sv_r a), (1, sv_i d)]) (st' := [sv_i 0]) rfl ?_
    exact sv_zret C hr (by omega) (by decide +kernel) hok (⟨rfl, ⟨_, rfl, ⟨by omega, by omega⟩⟩⟩)
  · refine sv_go C.1 C.2.1 [(.iload_n 1, 1), (.aload_n 0, 1)] (pc' := 10) (by decide +kernel) rfl (lv' := [(0, sv_r a), (1, sv_i d)]) (st' := [sv_r a, sv_i d]) rfl ?_
    refine sv_gf C (index := 47) (ci := 3) (k := 8) (r := (RX4, TX4, 11)) (v := sv_i v1) (by decide +kernel) (by rw [k_a]; rfl) rfl (by decide) fl_X4_47 (congrArg sv_i ev1) ?_
    refine sv_go C.1 C.2.1 [(.aload_n 0, 1)] (pc' := 14) (by decide +kernel) rfl (lv' := [(0, sv_r a), (1, sv_i d)]) (st' := [sv_r a, sv_i v1, sv_i d]) rfl ?_
    obtain ⟨v3, ev3, kv3⟩ := hI.ref (k := 2) k_a rfl
    refine sv_gf C (index := 21) (ci := 3) (k := 2) (r := (RX4, TX4, 11)) (v := sv_r v3) (by decide +kernel) (by rw [k_a]; rfl) rfl (by decide) fl_X4_21 (congrArg sv_a ev3) ?_
    obtain ⟨v4, ev4, hv4⟩ := sv_rdk hok (a := v3) (k := 5) (ci := 1) (r := (RX1, TX1, 6)) (by rw [kv3]; rfl) rfl (by decide) rfl
    refine sv_gf C (index := 126) (ci := 1) (k := 5) (r := (RX1, TX1, 6)) (v := sv_i v4) (by decide +kernel) (by rw [kv3]; rfl) rfl (by decide) fl_X4_126 (congrArg sv_i ev4) ?_
    refine sv_go C.1 C.2.1 [(.isub, 1)] (pc' := 21) (by decide +kernel) rfl (lv' := [(0, sv_r a), (1, sv_i d)]) (st' := [sv_i (v1 - v4), sv_i d]) rfl ?_
    obtain ⟨w5, hw5, ew5⟩ := sv_wr (v1 - v4)
    refine sv_sameD (st2 := [sv_i w5, sv_i d]) (lv2 := [(0, sv_r a), (1, sv_i d)]) (by simp only [List.map_cons, List.map_nil, sv_den_i, ew5]) rfl ?_
    refine sv_icmp C.1 C.2.1 (cnd := .lt) (off := 7) (tgt := 28) (by decide +kernel) (by decide) ⟨by omega, by omega⟩ ⟨by omega, by omega⟩ (fun (h6 : d < w5) => ?_) (fun (h6 : ¬ (d < w5)) => ?_)
    · refine sv_go C.1 C.2.1 [(.iconst 0, 1)] (pc' := 29) (by decide +kernel) rfl (lv' := [(0, sv_r a), (1, sv_i d)]) (st' := [sv_i 0]) rfl ?_
      exact sv_zret C hr (by omega) (by decide +kernel) hok (⟨rfl, ⟨_, rfl, ⟨by omega, by omega⟩⟩⟩)
    · refine sv_go C.1 C.2.1 [(.iconst 1, 1)] (pc' := 25) (by decide +kernel) rfl (lv' := [(0, sv_r a), (1, sv_i d)]) (st' := [sv_i 1]) rfl ?_
      refine sv_goto C.1 C.2.1 (off := 4) (tgt := 29) (by decide +kernel) (by decide) ?_
      exact sv_zret C hr (by omega) (by decide +kernel) hok (⟨rfl, ⟨_, rfl, ⟨by omega, by omega⟩⟩⟩)

theorem fl_X4_132 : Cond.fieldLink RX4 132 "SaintsRoad$Feast" "vigil" "Z" ∈ lw_good := sv_mem 204 (by decide +kernel) rfl
set_option maxHeartbeats 4000000 in
set_option maxRecDepth 100000 in
theorem sf_X4_hasVigil (l : Launch) (g : sv_G) (A : Nat → Prop) (ty : Nat → Nat) (σ : Nat → Nat → Int) (hok : sv_ok ty σ) (hTA : ∀ q, ty q ≠ 0 → A q) (hI : sv_inv sp_1 ty σ) (a : Nat) (k_a : ty a = 4) (d : Int) (h_d : 0 ≤ d ∧ d ≤ 367) : sv_M l yX4_hasVigil cX4_hasVigil 3 (some .boolean) { frames := 1, cells := 0, slots := 0, locals := 21 } g A ty σ [sv_r a, sv_i d] (fun r σ' => σ = σ' ∧ ∃ rv : Int, r = [sv_i rv] ∧ (0 ≤ rv ∧ rv ≤ 1)) := by
  refine sv_enter (by decide) (Nat.le_of_ble_eq_true rfl) ?_
  intro p e s m args below meth c C hr
  have C : sv_C g A RX4 cX4_hasVigil 3 p s m args meth c := C
  have hr : meth.sig.returnType = (some .boolean) := hr
  have hF : sv_ofx [] [] ty σ σ := sv_ofx.rf
  refine sv_same (st2 := []) (lv2 := [(0, sv_r a), (1, sv_i d)]) rfl rfl ?_
  refine sv_go C.1 C.2.1 [(.aload_n 0, 1), (.iload_n 1, 1)] (pc' := 2) (by decide +kernel) rfl (lv' := [(0, sv_r a), (1, sv_i d)]) (st' := [sv_i d, sv_r a]) rfl ?_
  refine sv_cv C (index := 108) (k := 1) (rest := []) (ci := 3) (r := (RX4, TX4, 11)) (by decide +kernel) (sf_X4_feastHeldOn l g A ty σ hok hTA hI a k_a (d) ⟨by omega, by omega⟩) ⟨co_X4_feastHeldOn, in_X4, ⟨by decide, by decide, by decide +kernel⟩, Nat.le_of_ble_eq_true rfl, Nat.le_of_ble_eq_true rfl⟩ ml_X4_108 im_X4_feastHeldOn se_X4_feastHeldOn (by rw [k_a]; rfl) rfl rfl rfl (Nat.le_of_ble_eq_true rfl) ⟨Nat.zero_le _, Nat.zero_le _⟩ (fun r2 σ3 hpo1 hok4 => ?_)
  obtain ⟨rfl, ⟨zu5, rfl, hzu5⟩⟩ := hpo1
  refine sv_same (st2 := [sv_a zu5]) (lv2 := [(0, sv_r a), (1, sv_i d)]) rfl rfl ?_
  refine sv_go C.1 C.2.1 [(.astore_n 2, 1), (.aload_n 2, 1)] (pc' := 7) (by decide +kernel) rfl (lv' := [(0, sv_r a), (1, sv_i d), (2, sv_a zu5)]) (st' := [sv_a zu5]) rfl ?_
  rcases hzu5 with rfl | ⟨q6, rfl, kq6, pq6⟩
  · refine sv_ifnull C.1 C.2.1 (off := 14) (tgt := 21) (by decide +kernel) (by decide) (by omega) (fun _ => ?_) (fun (h7 : 0 < (0 : Int)) => absurd h7 (by omega))
    refine sv_go C.1 C.2.1 [(.iconst 0, 1)] (pc' := 22) (by decide +kernel) rfl (lv' := [(0, sv_r a), (1, sv_i d), (2, sv_a 0)]) (st' := [sv_i 0]) rfl ?_
    exact sv_zret C hr (by omega) (by decide +kernel) hok4 (⟨rfl, ⟨_, rfl, ⟨by omega, by omega⟩⟩⟩)
  · refine sv_ifnull C.1 C.2.1 (off := 14) (tgt := 21) (by decide +kernel) (by decide) (by omega) (fun (h8 : (q6 : Int) + 1 = 0) => absurd h8 (by omega)) (fun _ => ?_)
    refine sv_go C.1 C.2.1 [(.aload_n 2, 1)] (pc' := 11) (by decide +kernel) rfl (lv' := [(0, sv_r a), (1, sv_i d), (2, sv_r q6)]) (st' := [sv_r q6]) rfl ?_
    obtain ⟨v9, ev9, hv9⟩ := sv_rdkz hok4 (a := q6) (k := 8) (ci := 2) (r := (RX3, TX3, 12)) (by rw [kq6]; rfl) rfl (by decide) rfl
    refine sv_gf C (index := 132) (ci := 2) (k := 8) (r := (RX3, TX3, 12)) (v := sv_i v9) (by decide +kernel) (by rw [kq6]; rfl) rfl (by decide) fl_X4_132 (congrArg sv_i ev9) ?_
    refine sv_if C.1 C.2.1 (cnd := .eq) (off := 7) (tgt := 21) (by decide +kernel) (by decide) ⟨by omega, by omega⟩ (fun (h10 : v9 = 0) => ?_) (fun (h10 : ¬ (v9 = 0)) => ?_)
    · refine sv_go C.1 C.2.1 [(.iconst 0, 1)] (pc' := 22) (by decide +kernel) rfl (lv' := [(0, sv_r a), (1, sv_i d), (2, sv_r q6)]) (st' := [sv_i 0]) rfl ?_
      exact sv_zret C hr (by omega) (by decide +kernel) hok4 (⟨rfl, ⟨_, rfl, ⟨by omega, by omega⟩⟩⟩)
    · refine sv_go C.1 C.2.1 [(.iconst 1, 1)] (pc' := 18) (by decide +kernel) rfl (lv' := [(0, sv_r a), (1, sv_i d), (2, sv_r q6)]) (st' := [sv_i 1]) rfl ?_
      refine sv_goto C.1 C.2.1 (off := 4) (tgt := 22) (by decide +kernel) (by decide) ?_
      exact sv_zret C hr (by omega) (by decide +kernel) hok4 (⟨rfl, ⟨_, rfl, ⟨by omega, by omega⟩⟩⟩)

theorem ml_X4_129 : Cond.methodLink RX4 129 yX4_hasVigil ∈ lw_good := sv_mem 772 (by decide +kernel) rfl
theorem co_X4_hasVigil : Cond.code yX4_hasVigil cX4_hasVigil 3 (some .boolean) ∈ lw_good := sv_mem 775 (by decide +kernel) rfl
theorem im_X4_hasVigil : Cond.instanceMethod yX4_hasVigil ∈ lw_good := sv_mem 774 (by decide +kernel) rfl
theorem se_X4_hasVigil : Cond.selects RX4 yX4_hasVigil yX4_hasVigil ∈ lw_good := sv_mem 29 (by decide +kernel) rfl
set_option maxHeartbeats 4000000 in
set_option maxRecDepth 100000 in
theorem sf_X4_isVigil (l : Launch) (g : sv_G) (A : Nat → Prop) (ty : Nat → Nat) (σ : Nat → Nat → Int) (hok : sv_ok ty σ) (hTA : ∀ q, ty q ≠ 0 → A q) (hI : sv_inv sp_1 ty σ) (a : Nat) (k_a : ty a = 4) (d : Int) (h_d : 0 ≤ d ∧ d ≤ 365) (sd : Int) (h_sd : 0 ≤ sd ∧ sd ≤ 1) : sv_M l yX4_isVigil cX4_isVigil 3 (some .boolean) { frames := 3, cells := 0, slots := 0, locals := 62 } g A ty σ [sv_r a, sv_i d, sv_i sd] (fun r σ' => σ = σ' ∧ ∃ rv : Int, r = [sv_i rv] ∧ (0 ≤ rv ∧ rv ≤ 1)) := by
  refine sv_enter (by decide) (Nat.le_of_ble_eq_true rfl) ?_
  intro p e s m args below meth c C hr
  have C : sv_C g A RX4 cX4_isVigil 3 p s m args meth c := C
  have hr : meth.sig.returnType = (some .boolean) := hr
  have hF : sv_ofx [] [] ty σ σ := sv_ofx.rf
  refine sv_same (st2 := []) (lv2 := [(0, sv_r a), (1, sv_i d), (2, sv_i sd)]) rfl rfl ?_
  refine sv_go C.1 C.2.1 [(.iload_n 2, 1)] (pc' := 1) (by decide +kernel) rfl (lv' := [(0, sv_r a), (1, sv_i d), (2, sv_i sd)]) (st' := [sv_i sd]) rfl ?_
  refine sv_if C.1 C.2.1 (cnd := .ne) (off := 15) (tgt := 16) (by decide +kernel) (by decide) ⟨by omega, by omega⟩ (fun (h1 : sd ≠ 0) => ?_) (fun (h1 : ¬ (sd ≠ 0)) => ?_)
  · refine sv_go C.1 C.2.1 [(.aload_n 0, 1)] (pc' := 17) (by decide +kernel) rfl (lv' := [(0, sv_r a), (1, sv_i d), (2, sv_i sd)]) (st' := [sv_r a]) rfl ?_
    obtain ⟨v2, ev2, hv2⟩ := sv_rdn hI (k := 10) k_a rfl
    refine sv_gf C (index := 37) (ci := 3) (k := 10) (r := (RX4, TX4, 11)) (v := sv_i v2) (by decide +kernel) (by rw [k_a]; rfl) rfl (by decide) fl_X4_37 (congrArg sv_i ev2) ?_
    refine sv_go C.1 C.2.1 [(.iload_n 1, 1), (.iconst 1, 1), (.iadd, 1)] (pc' := 23) (by decide +kernel) rfl (lv' := [(0, sv_r a), (1, sv_i d), (2, sv_i sd)]) (st' := [sv_i (d + 1), sv_i v2]) rfl ?_
    refine sv_cs C (index := 116) (k := 2) (rest := []) (by decide +kernel) (sf_X2_isSunday l g A ty σ hok hTA hI (v2) ⟨by omega, by omega⟩ (d + 1) ⟨by omega, by omega⟩) ⟨co_X2_isSunday, in_X2, ⟨by decide, by decide, by decide +kernel⟩, Nat.le_of_ble_eq_true rfl, Nat.le_of_ble_eq_true rfl⟩ ml_X4_116 st_X2_isSunday rfl rfl (Nat.le_of_ble_eq_true rfl) ⟨Nat.zero_le _, Nat.zero_le _⟩ (fun r4 σ5 hpo3 hok6 => ?_)
    obtain ⟨rfl, ⟨vu7, rfl, hvu7⟩⟩ := hpo3
    refine sv_same (st2 := [sv_i vu7]) (lv2 := [(0, sv_r a), (1, sv_i d), (2, sv_i sd)]) rfl rfl ?_
    refine sv_if C.1 C.2.1 (cnd := .eq) (off := 17) (tgt := 43) (by decide +kernel) (by decide) ⟨by omega, by omega⟩ (fun (h8 : vu7 = 0) => ?_) (fun (h8 : ¬ (vu7 = 0)) => ?_)
    · refine sv_go C.1 C.2.1 [(.iconst 0, 1)] (pc' := 44) (by decide +kernel) rfl (lv' := [(0, sv_r a), (1, sv_i d), (2, sv_i sd)]) (st' := [sv_i 0]) rfl ?_
      exact sv_zret C hr (by omega) (by decide +kernel) hok6 (⟨rfl, ⟨_, rfl, ⟨by omega, by omega⟩⟩⟩)
    · refine sv_go C.1 C.2.1 [(.aload_n 0, 1), (.iload_n 1, 1), (.iconst 2, 1), (.iadd, 1)] (pc' := 33) (by decide +kernel) rfl (lv' := [(0, sv_r a), (1, sv_i d), (2, sv_i sd)]) (st' := [sv_i (d + 2), sv_r a]) rfl ?_
      refine sv_cv C (index := 129) (k := 1) (rest := []) (ci := 3) (r := (RX4, TX4, 11)) (by decide +kernel) (sf_X4_hasVigil l g A ty σ hok6 hTA hI a k_a (d + 2) ⟨by omega, by omega⟩) ⟨co_X4_hasVigil, in_X4, ⟨by decide, by decide, by decide +kernel⟩, Nat.le_of_ble_eq_true rfl, Nat.le_of_ble_eq_true rfl⟩ ml_X4_129 im_X4_hasVigil se_X4_hasVigil (by rw [k_a]; rfl) rfl rfl rfl (Nat.le_of_ble_eq_true rfl) ⟨Nat.zero_le _, Nat.zero_le _⟩ (fun r10 σ11 hpo9 hok12 => ?_)
      obtain ⟨rfl, ⟨vu13, rfl, hvu13⟩⟩ := hpo9
      refine sv_same (st2 := [sv_i vu13]) (lv2 := [(0, sv_r a), (1, sv_i d), (2, sv_i sd)]) rfl rfl ?_
      refine sv_if C.1 C.2.1 (cnd := .eq) (off := 7) (tgt := 43) (by decide +kernel) (by decide) ⟨by omega, by omega⟩ (fun (h14 : vu13 = 0) => ?_) (fun (h14 : ¬ (vu13 = 0)) => ?_)
      · refine sv_go C.1 C.2.1 [(.iconst 0, 1)] (pc' := 44) (by decide +kernel) rfl (lv' := [(0, sv_r a), (1, sv_i d), (2, sv_i sd)]) (st' := [sv_i 0]) rfl ?_
        exact sv_zret C hr (by omega) (by decide +kernel) hok12 (⟨rfl, ⟨_, rfl, ⟨by omega, by omega⟩⟩⟩)
      · refine sv_go C.1 C.2.1 [(.iconst 1, 1)] (pc' := 40) (by decide +kernel) rfl (lv' := [(0, sv_r a), (1, sv_i d), (2, sv_i sd)]) (st' := [sv_i 1]) rfl ?_
        refine sv_goto C.1 C.2.1 (off := 4) (tgt := 44) (by decide +kernel) (by decide) ?_
        exact sv_zret C hr (by omega) (by decide +kernel) hok12 (⟨rfl, ⟨_, rfl, ⟨by omega, by omega⟩⟩⟩)
  · refine sv_go C.1 C.2.1 [(.aload_n 0, 1), (.iload_n 1, 1), (.iconst 1, 1), (.iadd, 1)] (pc' := 8) (by decide +kernel) rfl (lv' := [(0, sv_r a), (1, sv_i d), (2, sv_i sd)]) (st' := [sv_i (d + 1), sv_r a]) rfl ?_
    refine sv_cv C (index := 129) (k := 1) (rest := []) (ci := 3) (r := (RX4, TX4, 11)) (by decide +kernel) (sf_X4_hasVigil l g A ty σ hok hTA hI a k_a (d + 1) ⟨by omega, by omega⟩) ⟨co_X4_hasVigil, in_X4, ⟨by decide, by decide, by decide +kernel⟩, Nat.le_of_ble_eq_true rfl, Nat.le_of_ble_eq_true rfl⟩ ml_X4_129 im_X4_hasVigil se_X4_hasVigil (by rw [k_a]; rfl) rfl rfl rfl (Nat.le_of_ble_eq_true rfl) ⟨Nat.zero_le _, Nat.zero_le _⟩ (fun r16 σ17 hpo15 hok18 => ?_)
    obtain ⟨rfl, ⟨vu19, rfl, hvu19⟩⟩ := hpo15
    refine sv_same (st2 := [sv_i vu19]) (lv2 := [(0, sv_r a), (1, sv_i d), (2, sv_i sd)]) rfl rfl ?_
    refine sv_if C.1 C.2.1 (cnd := .eq) (off := 5) (tgt := 16) (by decide +kernel) (by decide) ⟨by omega, by omega⟩ (fun (h20 : vu19 = 0) => ?_) (fun (h20 : ¬ (vu19 = 0)) => ?_)
    · refine sv_go C.1 C.2.1 [(.aload_n 0, 1)] (pc' := 17) (by decide +kernel) rfl (lv' := [(0, sv_r a), (1, sv_i d), (2, sv_i sd)]) (st' := [sv_r a]) rfl ?_
      obtain ⟨v21, ev21, hv21⟩ := sv_rdn hI (k := 10) k_a rfl
      refine sv_gf C (index := 37) (ci := 3) (k := 10) (r := (RX4, TX4, 11)) (v := sv_i v21) (by decide +kernel) (by rw [k_a]; rfl) rfl (by decide) fl_X4_37 (congrArg sv_i ev21) ?_
      refine sv_go C.1 C.2.1 [(.iload_n 1, 1), (.iconst 1, 1), (.iadd, 1)] (pc' := 23) (by decide +kernel) rfl (lv' := [(0, sv_r a), (1, sv_i d), (2, sv_i sd)]) (st' := [sv_i (d + 1), sv_i v21]) rfl ?_
      refine sv_cs C (index := 116) (k := 2) (rest := []) (by decide +kernel) (sf_X2_isSunday l g A ty σ hok18 hTA hI (v21) ⟨by omega, by omega⟩ (d + 1) ⟨by omega, by omega⟩) ⟨co_X2_isSunday, in_X2, ⟨by decide, by decide, by decide +kernel⟩, Nat.le_of_ble_eq_true rfl, Nat.le_of_ble_eq_true rfl⟩ ml_X4_116 st_X2_isSunday rfl rfl (Nat.le_of_ble_eq_true rfl) ⟨Nat.zero_le _, Nat.zero_le _⟩ (fun r23 σ24 hpo22 hok25 => ?_)
      obtain ⟨rfl, ⟨vu26, rfl, hvu26⟩⟩ := hpo22
      refine sv_same (st2 := [sv_i vu26]) (lv2 := [(0, sv_r a), (1, sv_i d), (2, sv_i sd)]) rfl rfl ?_
      refine sv_if C.1 C.2.1 (cnd := .eq) (off := 17) (tgt := 43) (by decide +kernel) (by decide) ⟨by omega, by omega⟩ (fun (h27 : vu26 = 0) => ?_) (fun (h27 : ¬ (vu26 = 0)) => ?_)
      · refine sv_go C.1 C.2.1 [(.iconst 0, 1)] (pc' := 44) (by decide +kernel) rfl (lv' := [(0, sv_r a), (1, sv_i d), (2, sv_i sd)]) (st' := [sv_i 0]) rfl ?_
        exact sv_zret C hr (by omega) (by decide +kernel) hok25 (⟨rfl, ⟨_, rfl, ⟨by omega, by omega⟩⟩⟩)
      · refine sv_go C.1 C.2.1 [(.aload_n 0, 1), (.iload_n 1, 1), (.iconst 2, 1), (.iadd, 1)] (pc' := 33) (by decide +kernel) rfl (lv' := [(0, sv_r a), (1, sv_i d), (2, sv_i sd)]) (st' := [sv_i (d + 2), sv_r a]) rfl ?_
        refine sv_cv C (index := 129) (k := 1) (rest := []) (ci := 3) (r := (RX4, TX4, 11)) (by decide +kernel) (sf_X4_hasVigil l g A ty σ hok25 hTA hI a k_a (d + 2) ⟨by omega, by omega⟩) ⟨co_X4_hasVigil, in_X4, ⟨by decide, by decide, by decide +kernel⟩, Nat.le_of_ble_eq_true rfl, Nat.le_of_ble_eq_true rfl⟩ ml_X4_129 im_X4_hasVigil se_X4_hasVigil (by rw [k_a]; rfl) rfl rfl rfl (Nat.le_of_ble_eq_true rfl) ⟨Nat.zero_le _, Nat.zero_le _⟩ (fun r29 σ30 hpo28 hok31 => ?_)
        obtain ⟨rfl, ⟨vu32, rfl, hvu32⟩⟩ := hpo28
        refine sv_same (st2 := [sv_i vu32]) (lv2 := [(0, sv_r a), (1, sv_i d), (2, sv_i sd)]) rfl rfl ?_
        refine sv_if C.1 C.2.1 (cnd := .eq) (off := 7) (tgt := 43) (by decide +kernel) (by decide) ⟨by omega, by omega⟩ (fun (h33 : vu32 = 0) => ?_) (fun (h33 : ¬ (vu32 = 0)) => ?_)
        · refine sv_go C.1 C.2.1 [(.iconst 0, 1)] (pc' := 44) (by decide +kernel) rfl (lv' := [(0, sv_r a), (1, sv_i d), (2, sv_i sd)]) (st' := [sv_i 0]) rfl ?_
          exact sv_zret C hr (by omega) (by decide +kernel) hok31 (⟨rfl, ⟨_, rfl, ⟨by omega, by omega⟩⟩⟩)
        · refine sv_go C.1 C.2.1 [(.iconst 1, 1)] (pc' := 40) (by decide +kernel) rfl (lv' := [(0, sv_r a), (1, sv_i d), (2, sv_i sd)]) (st' := [sv_i 1]) rfl ?_
          refine sv_goto C.1 C.2.1 (off := 4) (tgt := 44) (by decide +kernel) (by decide) ?_
          exact sv_zret C hr (by omega) (by decide +kernel) hok31 (⟨rfl, ⟨_, rfl, ⟨by omega, by omega⟩⟩⟩)
    · refine sv_go C.1 C.2.1 [(.iconst 1, 1)] (pc' := 15) (by decide +kernel) rfl (lv' := [(0, sv_r a), (1, sv_i d), (2, sv_i sd)]) (st' := [sv_i 1]) rfl ?_
      exact sv_zret C hr (by omega) (by decide +kernel) hok18 (⟨rfl, ⟨_, rfl, ⟨by omega, by omega⟩⟩⟩)

theorem ml_X4_122 : Cond.methodLink RX4 122 yX4_isVigil ∈ lw_good := sv_mem 768 (by decide +kernel) rfl
theorem co_X4_isVigil : Cond.code yX4_isVigil cX4_isVigil 3 (some .boolean) ∈ lw_good := sv_mem 771 (by decide +kernel) rfl
theorem im_X4_isVigil : Cond.instanceMethod yX4_isVigil ∈ lw_good := sv_mem 770 (by decide +kernel) rfl
theorem se_X4_isVigil : Cond.selects RX4 yX4_isVigil yX4_isVigil ∈ lw_good := sv_mem 28 (by decide +kernel) rfl
theorem ml_X4_119 : Cond.methodLink RX4 119 yX4_isInLent ∈ lw_good := sv_mem 764 (by decide +kernel) rfl
theorem co_X4_isInLent : Cond.code yX4_isInLent cX4_isInLent 2 (some .boolean) ∈ lw_good := sv_mem 767 (by decide +kernel) rfl
theorem im_X4_isInLent : Cond.instanceMethod yX4_isInLent ∈ lw_good := sv_mem 766 (by decide +kernel) rfl
theorem se_X4_isInLent : Cond.selects RX4 yX4_isInLent yX4_isInLent ∈ lw_good := sv_mem 27 (by decide +kernel) rfl
set_option maxHeartbeats 4000000 in
set_option maxRecDepth 100000 in
theorem sf_X4_isFast (l : Launch) (g : sv_G) (A : Nat → Prop) (ty : Nat → Nat) (σ : Nat → Nat → Int) (hok : sv_ok ty σ) (hTA : ∀ q, ty q ≠ 0 → A q) (hI : sv_inv sp_1 ty σ) (a : Nat) (k_a : ty a = 4) (d : Int) (h_d : 0 ≤ d ∧ d ≤ 365) : sv_M l yX4_isFast cX4_isFast 3 (some .boolean) { frames := 4, cells := 0, slots := 0, locals := 84 } g A ty σ [sv_r a, sv_i d] (fun r σ' => σ = σ' ∧ ∃ rv : Int, r = [sv_i rv] ∧ (0 ≤ rv ∧ rv ≤ 1)) := by
  refine sv_enter (by decide) (Nat.le_of_ble_eq_true rfl) ?_
  intro p e s m args below meth c C hr
  have C : sv_C g A RX4 cX4_isFast 3 p s m args meth c := C
  have hr : meth.sig.returnType = (some .boolean) := hr
  have hF : sv_ofx [] [] ty σ σ := sv_ofx.rf
  refine sv_same (st2 := []) (lv2 := [(0, sv_r a), (1, sv_i d)]) rfl rfl ?_
  refine sv_go C.1 C.2.1 [(.aload_n 0, 1)] (pc' := 1) (by decide +kernel) rfl (lv' := [(0, sv_r a), (1, sv_i d)]) (st' := [sv_r a]) rfl ?_
  obtain ⟨v1, ev1, hv1⟩ := sv_rdn hI (k := 10) k_a rfl
  refine sv_gf C (index := 37) (ci := 3) (k := 10) (r := (RX4, TX4, 11)) (v := sv_i v1) (by decide +kernel) (by rw [k_a]; rfl) rfl (by decide) fl_X4_37 (congrArg sv_i ev1) ?_
  refine sv_go C.1 C.2.1 [(.iload_n 1, 1)] (pc' := 5) (by decide +kernel) rfl (lv' := [(0, sv_r a), (1, sv_i d)]) (st' := [sv_i d, sv_i v1]) rfl ?_
  refine sv_cs C (index := 116) (k := 2) (rest := []) (by decide +kernel) (sf_X2_isSunday l g A ty σ hok hTA hI (v1) ⟨by omega, by omega⟩ (d) ⟨by omega, by omega⟩) ⟨co_X2_isSunday, in_X2, ⟨by decide, by decide, by decide +kernel⟩, Nat.le_of_ble_eq_true rfl, Nat.le_of_ble_eq_true rfl⟩ ml_X4_116 st_X2_isSunday rfl rfl (Nat.le_of_ble_eq_true rfl) ⟨Nat.zero_le _, Nat.zero_le _⟩ (fun r3 σ4 hpo2 hok5 => ?_)
  obtain ⟨rfl, ⟨vu6, rfl, hvu6⟩⟩ := hpo2
  refine sv_same (st2 := [sv_i vu6]) (lv2 := [(0, sv_r a), (1, sv_i d)]) rfl rfl ?_
  refine sv_go C.1 C.2.1 [(.istore_n 2, 1), (.iload_n 2, 1)] (pc' := 10) (by decide +kernel) rfl (lv' := [(0, sv_r a), (1, sv_i d), (2, sv_i vu6)]) (st' := [sv_i vu6]) rfl ?_
  refine sv_if C.1 C.2.1 (cnd := .ne) (off := 11) (tgt := 21) (by decide +kernel) (by decide) ⟨by omega, by omega⟩ (fun (h7 : vu6 ≠ 0) => ?_) (fun (h7 : ¬ (vu6 ≠ 0)) => ?_)
  · refine sv_go C.1 C.2.1 [(.aload_n 0, 1), (.iload_n 1, 1), (.iload_n 2, 1)] (pc' := 24) (by decide +kernel) rfl (lv' := [(0, sv_r a), (1, sv_i d), (2, sv_i vu6)]) (st' := [sv_i vu6, sv_i d, sv_r a]) rfl ?_
    refine sv_cv C (index := 122) (k := 2) (rest := []) (ci := 3) (r := (RX4, TX4, 11)) (by decide +kernel) (sf_X4_isVigil l g A ty σ hok5 hTA hI a k_a (d) ⟨by omega, by omega⟩ (vu6) ⟨by omega, by omega⟩) ⟨co_X4_isVigil, in_X4, ⟨by decide, by decide, by decide +kernel⟩, Nat.le_of_ble_eq_true rfl, Nat.le_of_ble_eq_true rfl⟩ ml_X4_122 im_X4_isVigil se_X4_isVigil (by rw [k_a]; rfl) rfl rfl rfl (Nat.le_of_ble_eq_true rfl) ⟨Nat.zero_le _, Nat.zero_le _⟩ (fun r9 σ10 hpo8 hok11 => ?_)
    obtain ⟨rfl, ⟨vu12, rfl, hvu12⟩⟩ := hpo8
    refine sv_same (st2 := [sv_i vu12]) (lv2 := [(0, sv_r a), (1, sv_i d), (2, sv_i vu6)]) rfl rfl ?_
    refine sv_if C.1 C.2.1 (cnd := .eq) (off := 7) (tgt := 34) (by decide +kernel) (by decide) ⟨by omega, by omega⟩ (fun (h13 : vu12 = 0) => ?_) (fun (h13 : ¬ (vu12 = 0)) => ?_)
    · refine sv_go C.1 C.2.1 [(.iconst 0, 1)] (pc' := 35) (by decide +kernel) rfl (lv' := [(0, sv_r a), (1, sv_i d), (2, sv_i vu6)]) (st' := [sv_i 0]) rfl ?_
      exact sv_zret C hr (by omega) (by decide +kernel) hok11 (⟨rfl, ⟨_, rfl, ⟨by omega, by omega⟩⟩⟩)
    · refine sv_go C.1 C.2.1 [(.iconst 1, 1)] (pc' := 31) (by decide +kernel) rfl (lv' := [(0, sv_r a), (1, sv_i d), (2, sv_i vu6)]) (st' := [sv_i 1]) rfl ?_
      refine sv_goto C.1 C.2.1 (off := 4) (tgt := 35) (by decide +kernel) (by decide) ?_
      exact sv_zret C hr (by omega) (by decide +kernel) hok11 (⟨rfl, ⟨_, rfl, ⟨by omega, by omega⟩⟩⟩)
  · refine sv_go C.1 C.2.1 [(.aload_n 0, 1), (.iload_n 1, 1)] (pc' := 15) (by decide +kernel) rfl (lv' := [(0, sv_r a), (1, sv_i d), (2, sv_i vu6)]) (st' := [sv_i d, sv_r a]) rfl ?_
    refine sv_cv C (index := 119) (k := 1) (rest := []) (ci := 3) (r := (RX4, TX4, 11)) (by decide +kernel) (sf_X4_isInLent l g A ty σ hok5 hTA hI a k_a (d) ⟨by omega, by omega⟩) ⟨co_X4_isInLent, in_X4, ⟨by decide, by decide, by decide +kernel⟩, Nat.le_of_ble_eq_true rfl, Nat.le_of_ble_eq_true rfl⟩ ml_X4_119 im_X4_isInLent se_X4_isInLent (by rw [k_a]; rfl) rfl rfl rfl (Nat.le_of_ble_eq_true rfl) ⟨Nat.zero_le _, Nat.zero_le _⟩ (fun r15 σ16 hpo14 hok17 => ?_)
    obtain ⟨rfl, ⟨vu18, rfl, hvu18⟩⟩ := hpo14
    refine sv_same (st2 := [sv_i vu18]) (lv2 := [(0, sv_r a), (1, sv_i d), (2, sv_i vu6)]) rfl rfl ?_
    refine sv_if C.1 C.2.1 (cnd := .ne) (off := 12) (tgt := 30) (by decide +kernel) (by decide) ⟨by omega, by omega⟩ (fun (h19 : vu18 ≠ 0) => ?_) (fun (h19 : ¬ (vu18 ≠ 0)) => ?_)
    · refine sv_go C.1 C.2.1 [(.iconst 1, 1)] (pc' := 31) (by decide +kernel) rfl (lv' := [(0, sv_r a), (1, sv_i d), (2, sv_i vu6)]) (st' := [sv_i 1]) rfl ?_
      refine sv_goto C.1 C.2.1 (off := 4) (tgt := 35) (by decide +kernel) (by decide) ?_
      exact sv_zret C hr (by omega) (by decide +kernel) hok17 (⟨rfl, ⟨_, rfl, ⟨by omega, by omega⟩⟩⟩)
    · refine sv_go C.1 C.2.1 [(.aload_n 0, 1), (.iload_n 1, 1), (.iload_n 2, 1)] (pc' := 24) (by decide +kernel) rfl (lv' := [(0, sv_r a), (1, sv_i d), (2, sv_i vu6)]) (st' := [sv_i vu6, sv_i d, sv_r a]) rfl ?_
      refine sv_cv C (index := 122) (k := 2) (rest := []) (ci := 3) (r := (RX4, TX4, 11)) (by decide +kernel) (sf_X4_isVigil l g A ty σ hok17 hTA hI a k_a (d) ⟨by omega, by omega⟩ (vu6) ⟨by omega, by omega⟩) ⟨co_X4_isVigil, in_X4, ⟨by decide, by decide, by decide +kernel⟩, Nat.le_of_ble_eq_true rfl, Nat.le_of_ble_eq_true rfl⟩ ml_X4_122 im_X4_isVigil se_X4_isVigil (by rw [k_a]; rfl) rfl rfl rfl (Nat.le_of_ble_eq_true rfl) ⟨Nat.zero_le _, Nat.zero_le _⟩ (fun r21 σ22 hpo20 hok23 => ?_)
      obtain ⟨rfl, ⟨vu24, rfl, hvu24⟩⟩ := hpo20
      refine sv_same (st2 := [sv_i vu24]) (lv2 := [(0, sv_r a), (1, sv_i d), (2, sv_i vu6)]) rfl rfl ?_
      refine sv_if C.1 C.2.1 (cnd := .eq) (off := 7) (tgt := 34) (by decide +kernel) (by decide) ⟨by omega, by omega⟩ (fun (h25 : vu24 = 0) => ?_) (fun (h25 : ¬ (vu24 = 0)) => ?_)
      · refine sv_go C.1 C.2.1 [(.iconst 0, 1)] (pc' := 35) (by decide +kernel) rfl (lv' := [(0, sv_r a), (1, sv_i d), (2, sv_i vu6)]) (st' := [sv_i 0]) rfl ?_
        exact sv_zret C hr (by omega) (by decide +kernel) hok23 (⟨rfl, ⟨_, rfl, ⟨by omega, by omega⟩⟩⟩)
      · refine sv_go C.1 C.2.1 [(.iconst 1, 1)] (pc' := 31) (by decide +kernel) rfl (lv' := [(0, sv_r a), (1, sv_i d), (2, sv_i vu6)]) (st' := [sv_i 1]) rfl ?_
        refine sv_goto C.1 C.2.1 (off := 4) (tgt := 35) (by decide +kernel) (by decide) ?_
        exact sv_zret C hr (by omega) (by decide +kernel) hok23 (⟨rfl, ⟨_, rfl, ⟨by omega, by omega⟩⟩⟩)

set_option maxHeartbeats 4000000 in
set_option maxRecDepth 100000 in
theorem sf_X4_feastOf (l : Launch) (g : sv_G) (A : Nat → Prop) (ty : Nat → Nat) (σ : Nat → Nat → Int) (hok : sv_ok ty σ) (hTA : ∀ q, ty q ≠ 0 → A q) (hI : sv_inv sp_1 ty σ) (a : Nat) (k_a : ty a = 4) (v : Int) (h_v : (-2147483648) ≤ v ∧ v ≤ 2147483647) : sv_M l yX4_feastOf cX4_feastOf 3 (some (.object "SaintsRoad$Feast")) { frames := 0, cells := 0, slots := 0, locals := 0 } g A ty σ [sv_r a, sv_i v] (fun r σ' => σ = σ' ∧ ∃ rz : Int, r = [sv_a rz] ∧ (rz = 0 ∨ ∃ rq : Nat, rz = (rq : Int) + 1 ∧ ty rq = 8)) := by
  refine sv_enter (by decide) (Nat.le_of_ble_eq_true rfl) ?_
  intro p e s m args below meth c C hr
  have C : sv_C g A RX4 cX4_feastOf 3 p s m args meth c := C
  have hr : meth.sig.returnType = (some (.object "SaintsRoad$Feast")) := hr
  have hF : sv_ofx [] [] ty σ σ := sv_ofx.rf
  refine sv_same (st2 := []) (lv2 := [(0, sv_r a), (1, sv_i v)]) rfl rfl ?_
  refine sv_go C.1 C.2.1 [(.iload_n 1, 1), (.bipush (-20), 2)] (pc' := 3) (by decide +kernel) rfl (lv' := [(0, sv_r a), (1, sv_i v)]) (st' := [sv_i ((-20)), sv_i v]) rfl ?_
  have J3 : ∀ (Jg2_s0 : Int), ((-19) ≤ Jg2_s0 ∧ Jg2_s0 ≤ 2147483647) → sv_E p l e { frames := 0, cells := 0, slots := 0, locals := 0 } s m args below meth c 3 g A ty (fun r σ' => σ = σ' ∧ ∃ rz : Int, r = [sv_a rz] ∧ (rz = 0 ∨ ∃ rq : Nat, rz = (rq : Int) + 1 ∧ ty rq = 8)) σ 14 [(0, sv_r a)] [sv_i Jg2_s0] := by
    intro Jg2_s0 hJg2_s0
    refine sv_go C.1 C.2.1 [(.istore_n 2, 1), (.iload_n 2, 1)] (pc' := 16) (by decide +kernel) rfl (lv' := [(0, sv_r a), (2, sv_i Jg2_s0)]) (st' := [sv_i Jg2_s0]) rfl ?_
    refine sv_if C.1 C.2.1 (cnd := .lt) (off := 26) (tgt := 42) (by decide +kernel) (by decide) ⟨by omega, by omega⟩ (fun (h4 : Jg2_s0 < 0) => ?_) (fun (h4 : ¬ (Jg2_s0 < 0)) => ?_)
    · refine sv_go C.1 C.2.1 [(.aconst_null, 1)] (pc' := 43) (by decide +kernel) rfl (lv' := [(0, sv_r a), (2, sv_i Jg2_s0)]) (st' := [sv_a 0]) rfl ?_
      exact sv_aret C hr (Or.inl ⟨_, rfl⟩) (by decide +kernel) hok (⟨rfl, ⟨_, rfl, Or.inl rfl⟩⟩)
    · refine sv_go C.1 C.2.1 [(.iload_n 2, 1), (.aload_n 0, 1)] (pc' := 21) (by decide +kernel) rfl (lv' := [(0, sv_r a), (2, sv_i Jg2_s0)]) (st' := [sv_r a, sv_i Jg2_s0]) rfl ?_
      obtain ⟨v5, ev5, kv5⟩ := hI.ref (k := 2) k_a rfl
      refine sv_gf C (index := 21) (ci := 3) (k := 2) (r := (RX4, TX4, 11)) (v := sv_r v5) (by decide +kernel) (by rw [k_a]; rfl) rfl (by decide) fl_X4_21 (congrArg sv_a ev5) ?_
      obtain ⟨v6, ev6, hv6⟩ := sv_rdn hI (k := 2) kv5 rfl
      refine sv_gf C (index := 75) (ci := 1) (k := 2) (r := (RX1, TX1, 6)) (v := sv_i v6) (by decide +kernel) (by rw [kv5]; rfl) rfl (by decide) fl_X4_75 (congrArg sv_i ev6) ?_
      refine sv_icmp C.1 C.2.1 (cnd := .ge) (off := 15) (tgt := 42) (by decide +kernel) (by decide) ⟨by omega, by omega⟩ ⟨by omega, by omega⟩ (fun (h7 : v6 ≤ Jg2_s0) => ?_) (fun (h7 : ¬ (v6 ≤ Jg2_s0)) => ?_)
      · refine sv_go C.1 C.2.1 [(.aconst_null, 1)] (pc' := 43) (by decide +kernel) rfl (lv' := [(0, sv_r a), (2, sv_i Jg2_s0)]) (st' := [sv_a 0]) rfl ?_
        exact sv_aret C hr (Or.inl ⟨_, rfl⟩) (by decide +kernel) hok (⟨rfl, ⟨_, rfl, Or.inl rfl⟩⟩)
      · refine sv_go C.1 C.2.1 [(.aload_n 0, 1)] (pc' := 31) (by decide +kernel) rfl (lv' := [(0, sv_r a), (2, sv_i Jg2_s0)]) (st' := [sv_r a]) rfl ?_
        refine sv_gf C (index := 21) (ci := 3) (k := 2) (r := (RX4, TX4, 11)) (v := sv_r v5) (by decide +kernel) (by rw [k_a]; rfl) rfl (by decide) fl_X4_21 (congrArg sv_a ev5) ?_
        obtain ⟨v8, ev8, kv8⟩ := hI.ref (k := 0) kv5 rfl
        refine sv_gf C (index := 78) (ci := 1) (k := 0) (r := (RX1, TX1, 6)) (v := sv_r v8) (by decide +kernel) (by rw [kv5]; rfl) rfl (by decide) fl_X4_78 (congrArg sv_a ev8) ?_
        refine sv_go C.1 C.2.1 [(.iload_n 2, 1)] (pc' := 38) (by decide +kernel) rfl (lv' := [(0, sv_r a), (2, sv_i Jg2_s0)]) (st' := [sv_i Jg2_s0, sv_r v8]) rfl ?_
        refine sv_aa C (N := "SaintsRoad$Feast") (by decide) (n := 60) (by decide +kernel) (by rw [kv8]; rfl) (by decide) (by omega) (by omega) ?_
        obtain ⟨v9, ev9, kv9⟩ := hI.ref (k := (Jg2_s0 : Int).toNat) kv8 (by first | rfl | (show (if _ then _ else _) = _; rw [if_pos (by omega)]))
        rw [ev9]
        refine sv_goto C.1 C.2.1 (off := 4) (tgt := 43) (by decide +kernel) (by decide) ?_
        exact sv_aret C hr (Or.inl ⟨_, rfl⟩) (by decide +kernel) hok (⟨rfl, ⟨_, rfl, Or.inr ⟨v9, rfl, kv9⟩⟩⟩)
  refine sv_icmp C.1 C.2.1 (cnd := .gt) (off := 10) (tgt := 13) (by decide +kernel) (by decide) ⟨by omega, by omega⟩ ⟨by omega, by omega⟩ (fun (h1 : ((-20)) < v) => ?_) (fun (h1 : ¬ (((-20)) < v)) => ?_)
  · refine sv_go C.1 C.2.1 [(.iload_n 1, 1)] (pc' := 14) (by decide +kernel) rfl (lv' := [(0, sv_r a), (1, sv_i v)]) (st' := [sv_i v]) rfl ?_
    refine sv_pick [0] (lv2 := [(0, sv_r a)]) rfl ?_
    exact J3 v ⟨by omega, by omega⟩
  · refine sv_go C.1 C.2.1 [(.bipush (-20), 2), (.iload_n 1, 1), (.isub, 1)] (pc' := 10) (by decide +kernel) rfl (lv' := [(0, sv_r a), (1, sv_i v)]) (st' := [sv_i (((-20)) - v)]) rfl ?_
    refine sv_goto C.1 C.2.1 (off := 4) (tgt := 14) (by decide +kernel) (by decide) ?_
    refine sv_pick [0] (lv2 := [(0, sv_r a)]) rfl ?_
    exact J3 (((-20)) - v) ⟨by omega, by omega⟩

theorem ml_X4_135 : Cond.methodLink RX4 135 yX4_officeOf ∈ lw_good := sv_mem 784 (by decide +kernel) rfl
theorem co_X4_officeOf : Cond.code yX4_officeOf cX4_officeOf 4 (some .int) ∈ lw_good := sv_mem 739 (by decide +kernel) rfl
theorem im_X4_officeOf : Cond.instanceMethod yX4_officeOf ∈ lw_good := sv_mem 737 (by decide +kernel) rfl
theorem se_X4_officeOf : Cond.selects RX4 yX4_officeOf yX4_officeOf ∈ lw_good := sv_mem 738 (by decide +kernel) rfl
theorem ml_X4_138 : Cond.methodLink RX4 138 yX4_feastOf ∈ lw_good := sv_mem 785 (by decide +kernel) rfl
theorem co_X4_feastOf : Cond.code yX4_feastOf cX4_feastOf 3 (some (.object "SaintsRoad$Feast")) ∈ lw_good := sv_mem 788 (by decide +kernel) rfl
theorem im_X4_feastOf : Cond.instanceMethod yX4_feastOf ∈ lw_good := sv_mem 787 (by decide +kernel) rfl
theorem se_X4_feastOf : Cond.selects RX4 yX4_feastOf yX4_feastOf ∈ lw_good := sv_mem 30 (by decide +kernel) rfl
theorem ml_X4_141 : Cond.methodLink RX4 141 yX1_waxOfRank ∈ lw_good := sv_mem 789 (by decide +kernel) rfl
theorem co_X1_waxOfRank : Cond.code yX1_waxOfRank cX1_waxOfRank 2 (some .int) ∈ lw_good := sv_mem 792 (by decide +kernel) rfl
theorem in_X1 : Cond.initialized RX1 ∈ lw_good := sv_mem 76 (by decide +kernel) rfl
theorem im_X1_waxOfRank : Cond.instanceMethod yX1_waxOfRank ∈ lw_good := sv_mem 790 (by decide +kernel) rfl
theorem se_X1_waxOfRank : Cond.selects RX1 yX1_waxOfRank yX1_waxOfRank ∈ lw_good := sv_mem 791 (by decide +kernel) rfl
set_option maxHeartbeats 4000000 in
set_option maxRecDepth 100000 in
theorem sf_X4_waxOf (l : Launch) (g : sv_G) (A : Nat → Prop) (ty : Nat → Nat) (σ : Nat → Nat → Int) (hok : sv_ok ty σ) (hTA : ∀ q, ty q ≠ 0 → A q) (hI : sv_inv sp_1 ty σ) (a : Nat) (k_a : ty a = 4) (d : Int) (h_d : 0 ≤ d ∧ d ≤ 365) : sv_M l yX4_waxOf cX4_waxOf 5 (some .int) { frames := 4, cells := 0, slots := 0, locals := 85 } g A ty σ [sv_r a, sv_i d] (fun r σ' => σ = σ' ∧ ∃ rv : Int, r = [sv_i rv] ∧ (0 ≤ rv ∧ rv ≤ 2147483647)) := by
  refine sv_enter (by decide) (Nat.le_of_ble_eq_true rfl) ?_
  intro p e s m args below meth c C hr
  have C : sv_C g A RX4 cX4_waxOf 5 p s m args meth c := C
  have hr : meth.sig.returnType = (some .int) := hr
  have hF : sv_ofx [] [] ty σ σ := sv_ofx.rf
  refine sv_same (st2 := []) (lv2 := [(0, sv_r a), (1, sv_i d)]) rfl rfl ?_
  refine sv_go C.1 C.2.1 [(.aload_n 0, 1), (.iload_n 1, 1)] (pc' := 2) (by decide +kernel) rfl (lv' := [(0, sv_r a), (1, sv_i d)]) (st' := [sv_i d, sv_r a]) rfl ?_
  refine sv_cv C (index := 135) (k := 1) (rest := []) (ci := 3) (r := (RX4, TX4, 11)) (by decide +kernel) (sf_X4_officeOf l g A ty σ hok hTA hI a k_a (d) ⟨by omega, by omega⟩) ⟨co_X4_officeOf, in_X4, ⟨by decide, by decide, by decide +kernel⟩, Nat.le_of_ble_eq_true rfl, Nat.le_of_ble_eq_true rfl⟩ ml_X4_135 im_X4_officeOf se_X4_officeOf (by rw [k_a]; rfl) rfl rfl rfl (Nat.le_of_ble_eq_true rfl) ⟨Nat.zero_le _, Nat.zero_le _⟩ (fun r2 σ3 hpo1 hok4 => ?_)
  obtain ⟨rfl, ⟨vu5, rfl, hvu5⟩⟩ := hpo1
  refine sv_same (st2 := [sv_i vu5]) (lv2 := [(0, sv_r a), (1, sv_i d)]) rfl rfl ?_
  refine sv_go C.1 C.2.1 [(.istore_n 2, 1), (.aload_n 0, 1), (.iload_n 2, 1)] (pc' := 8) (by decide +kernel) rfl (lv' := [(0, sv_r a), (1, sv_i d), (2, sv_i vu5)]) (st' := [sv_i vu5, sv_r a]) rfl ?_
  refine sv_cv C (index := 138) (k := 1) (rest := []) (ci := 3) (r := (RX4, TX4, 11)) (by decide +kernel) (sf_X4_feastOf l g A ty σ hok4 hTA hI a k_a (vu5) ⟨by omega, by omega⟩) ⟨co_X4_feastOf, in_X4, ⟨by decide, by decide, by decide +kernel⟩, Nat.le_of_ble_eq_true rfl, Nat.le_of_ble_eq_true rfl⟩ ml_X4_138 im_X4_feastOf se_X4_feastOf (by rw [k_a]; rfl) rfl rfl rfl (Nat.le_of_ble_eq_true rfl) ⟨Nat.zero_le _, Nat.zero_le _⟩ (fun r7 σ8 hpo6 hok9 => ?_)
  obtain ⟨rfl, ⟨zu10, rfl, hzu10⟩⟩ := hpo6
  refine sv_same (st2 := [sv_a zu10]) (lv2 := [(0, sv_r a), (1, sv_i d), (2, sv_i vu5)]) rfl rfl ?_
  refine sv_go C.1 C.2.1 [(.astore_n 3, 1), (.aload_n 3, 1)] (pc' := 13) (by decide +kernel) rfl (lv' := [(0, sv_r a), (1, sv_i d), (2, sv_i vu5), (3, sv_a zu10)]) (st' := [sv_a zu10]) rfl ?_
  rcases hzu10 with rfl | ⟨q11, rfl, kq11⟩
  · refine sv_ifnonnull C.1 C.2.1 (off := 5) (tgt := 18) (by decide +kernel) (by decide) (by omega) (fun (h12 : 0 < (0 : Int)) => absurd h12 (by omega)) (fun _ => ?_)
    refine sv_go C.1 C.2.1 [(.iconst 0, 1)] (pc' := 17) (by decide +kernel) rfl (lv' := [(0, sv_r a), (1, sv_i d), (2, sv_i vu5), (3, sv_a 0)]) (st' := [sv_i 0]) rfl ?_
    exact sv_iret C hr (by decide +kernel) hok9 (⟨rfl, ⟨_, rfl, ⟨by omega, by omega⟩⟩⟩)
  · refine sv_ifnonnull C.1 C.2.1 (off := 5) (tgt := 18) (by decide +kernel) (by decide) (by omega) (fun _ => ?_) (fun (h13 : (q11 : Int) + 1 = 0) => absurd h13 (by omega))
    refine sv_go C.1 C.2.1 [(.aload_n 0, 1)] (pc' := 19) (by decide +kernel) rfl (lv' := [(0, sv_r a), (1, sv_i d), (2, sv_i vu5), (3, sv_r q11)]) (st' := [sv_r a]) rfl ?_
    obtain ⟨v14, ev14, kv14⟩ := hI.ref (k := 2) k_a rfl
    refine sv_gf C (index := 21) (ci := 3) (k := 2) (r := (RX4, TX4, 11)) (v := sv_r v14) (by decide +kernel) (by rw [k_a]; rfl) rfl (by decide) fl_X4_21 (congrArg sv_a ev14) ?_
    refine sv_go C.1 C.2.1 [(.aload_n 3, 1)] (pc' := 23) (by decide +kernel) rfl (lv' := [(0, sv_r a), (1, sv_i d), (2, sv_i vu5), (3, sv_r q11)]) (st' := [sv_r q11, sv_r v14]) rfl ?_
    obtain ⟨v15, ev15, hv15⟩ := sv_rdk hok9 (a := q11) (k := 7) (ci := 2) (r := (RX3, TX3, 12)) (by rw [kq11]; rfl) rfl (by decide) rfl
    refine sv_gf C (index := 95) (ci := 2) (k := 7) (r := (RX3, TX3, 12)) (v := sv_i v15) (by decide +kernel) (by rw [kq11]; rfl) rfl (by decide) fl_X4_95 (congrArg sv_i ev15) ?_
    refine sv_cv C (index := 141) (k := 1) (rest := []) (ci := 1) (r := (RX1, TX1, 6)) (by decide +kernel) (sf_X1_waxOfRank l g A ty σ hok9 hTA hI v14 kv14 (v15) ⟨by omega, by omega⟩) ⟨co_X1_waxOfRank, in_X1, ⟨by decide, by decide, by decide +kernel⟩, Nat.le_of_ble_eq_true rfl, Nat.le_of_ble_eq_true rfl⟩ ml_X4_141 im_X1_waxOfRank se_X1_waxOfRank (by rw [kv14]; rfl) rfl rfl rfl (Nat.le_of_ble_eq_true rfl) ⟨Nat.zero_le _, Nat.zero_le _⟩ (fun r17 σ18 hpo16 hok19 => ?_)
    obtain ⟨rfl, ⟨vu20, rfl, hvu20⟩⟩ := hpo16
    refine sv_same (st2 := [sv_i vu20]) (lv2 := [(0, sv_r a), (1, sv_i d), (2, sv_i vu5), (3, sv_r q11)]) rfl rfl ?_
    refine sv_go C.1 C.2.1 [(.istore 4, 2), (.iload_n 2, 1)] (pc' := 32) (by decide +kernel) rfl (lv' := [(0, sv_r a), (1, sv_i d), (2, sv_i vu5), (3, sv_r q11), (4, sv_i vu20)]) (st' := [sv_i vu5]) rfl ?_
    refine sv_if C.1 C.2.1 (cnd := .lt) (off := 8) (tgt := 40) (by decide +kernel) (by decide) ⟨by omega, by omega⟩ (fun (h21 : vu5 < 0) => ?_) (fun (h21 : ¬ (vu5 < 0)) => ?_)
    · refine sv_go C.1 C.2.1 [(.iload 4, 2), (.iconst 4, 1)] (pc' := 43) (by decide +kernel) rfl (lv' := [(0, sv_r a), (1, sv_i d), (2, sv_i vu5), (3, sv_r q11), (4, sv_i vu20)]) (st' := [sv_i 4, sv_i vu20]) rfl ?_
      refine sv_idivP C.1 C.2.1 (by decide +kernel) ⟨by omega, by omega⟩ ⟨by omega, by omega⟩ ?_
      exact sv_iret C hr (by decide +kernel) hok19 (⟨rfl, ⟨_, rfl, ⟨by omega, by omega⟩⟩⟩)
    · refine sv_go C.1 C.2.1 [(.iload 4, 2)] (pc' := 37) (by decide +kernel) rfl (lv' := [(0, sv_r a), (1, sv_i d), (2, sv_i vu5), (3, sv_r q11), (4, sv_i vu20)]) (st' := [sv_i vu20]) rfl ?_
      refine sv_goto C.1 C.2.1 (off := 7) (tgt := 44) (by decide +kernel) (by decide) ?_
      exact sv_iret C hr (by decide +kernel) hok19 (⟨rfl, ⟨_, rfl, ⟨by omega, by omega⟩⟩⟩)

set_option maxHeartbeats 4000000 in
set_option maxRecDepth 100000 in
theorem sf_X4_firstHeld (l : Launch) (g : sv_G) (A : Nat → Prop) (ty : Nat → Nat) (σ : Nat → Nat → Int) (hok : sv_ok ty σ) (hTA : ∀ q, ty q ≠ 0 → A q) (hI : sv_inv sp_1 ty σ) (a : Nat) (k_a : ty a = 4) (d : Int) (h_d : 0 ≤ d ∧ d ≤ 365) (v : Int) (h_v : (-2147483648) ≤ v ∧ v ≤ 2147483647) : sv_M l yX4_firstHeld cX4_firstHeld 6 (some .int) { frames := 0, cells := 0, slots := 0, locals := 0 } g A ty σ [sv_r a, sv_i d, sv_i v] (fun r σ' => σ = σ' ∧ ∃ rv : Int, r = [sv_i rv] ∧ ((-2147483648) ≤ rv ∧ rv ≤ 2147483647)) := by
  refine sv_enter (by decide) (Nat.le_of_ble_eq_true rfl) ?_
  intro p e s m args below meth c C hr
  have C : sv_C g A RX4 cX4_firstHeld 6 p s m args meth c := C
  have hr : meth.sig.returnType = (some .int) := hr
  have hF : sv_ofx [] [] ty σ σ := sv_ofx.rf
  refine sv_same (st2 := []) (lv2 := [(0, sv_r a), (1, sv_i d), (2, sv_i v)]) rfl rfl ?_
  refine sv_go C.1 C.2.1 [(.iconst (-1), 1), (.istore_n 3, 1), (.iconst 0, 1), (.istore 4, 2)] (pc' := 5) (by decide +kernel) rfl (lv' := [(0, sv_r a), (1, sv_i d), (2, sv_i v), (3, sv_i ((-1))), (4, sv_i 0)]) (st' := []) rfl ?_
  have L2 : ∀ (n : Nat) (Xg1_l3 : Int) (Xg1_l4 : Int), ((-2147483648) ≤ Xg1_l3 ∧ Xg1_l3 ≤ 2147483647) → (0 ≤ Xg1_l4 ∧ Xg1_l4 ≤ 60) → (60 - Xg1_l4) < (n : Int) → sv_E p l e { frames := 0, cells := 0, slots := 0, locals := 0 } s m args below meth c 6 g A ty (fun r σ' => σ = σ' ∧ ∃ rv : Int, r = [sv_i rv] ∧ ((-2147483648) ≤ rv ∧ rv ≤ 2147483647)) σ 5 [(0, sv_r a), (1, sv_i d), (2, sv_i v), (3, sv_i Xg1_l3), (4, sv_i Xg1_l4)] [] := by
    intro n
    induction n with
    | zero => intro Xg1_l3 Xg1_l4 hXg1_l3 hXg1_l4 hmu; exact absurd hmu (by omega)
    | succ n ih3 =>
      intro Xg1_l3 Xg1_l4 hXg1_l3 hXg1_l4 hmu
      refine sv_go C.1 C.2.1 [(.iload 4, 2), (.aload_n 0, 1)] (pc' := 8) (by decide +kernel) rfl (lv' := [(0, sv_r a), (1, sv_i d), (2, sv_i v), (3, sv_i Xg1_l3), (4, sv_i Xg1_l4)]) (st' := [sv_r a, sv_i Xg1_l4]) rfl ?_
      obtain ⟨v4, ev4, kv4⟩ := hI.ref (k := 2) k_a rfl
      refine sv_gf C (index := 21) (ci := 3) (k := 2) (r := (RX4, TX4, 11)) (v := sv_r v4) (by decide +kernel) (by rw [k_a]; rfl) rfl (by decide) fl_X4_21 (congrArg sv_a ev4) ?_
      obtain ⟨v5, ev5, hv5⟩ := sv_rdn hI (k := 2) kv4 rfl
      refine sv_gf C (index := 75) (ci := 1) (k := 2) (r := (RX1, TX1, 6)) (v := sv_i v5) (by decide +kernel) (by rw [kv4]; rfl) rfl (by decide) fl_X4_75 (congrArg sv_i ev5) ?_
      refine sv_icmp C.1 C.2.1 (cnd := .ge) (off := 72) (tgt := 86) (by decide +kernel) (by decide) ⟨by omega, by omega⟩ ⟨by omega, by omega⟩ (fun (h6 : v5 ≤ Xg1_l4) => ?_) (fun (h6 : ¬ (v5 ≤ Xg1_l4)) => ?_)
      · refine sv_go C.1 C.2.1 [(.iload_n 3, 1)] (pc' := 87) (by decide +kernel) rfl (lv' := [(0, sv_r a), (1, sv_i d), (2, sv_i v), (3, sv_i Xg1_l3), (4, sv_i Xg1_l4)]) (st' := [sv_i Xg1_l3]) rfl ?_
        exact sv_iret C hr (by decide +kernel) hok (⟨rfl, ⟨_, rfl, ⟨by omega, by omega⟩⟩⟩)
      · refine sv_go C.1 C.2.1 [(.aload_n 0, 1)] (pc' := 18) (by decide +kernel) rfl (lv' := [(0, sv_r a), (1, sv_i d), (2, sv_i v), (3, sv_i Xg1_l3), (4, sv_i Xg1_l4)]) (st' := [sv_r a]) rfl ?_
        obtain ⟨v7, ev7, kv7⟩ := hI.ref (k := 0) k_a rfl
        refine sv_gf C (index := 9) (ci := 3) (k := 0) (r := (RX4, TX4, 11)) (v := sv_r v7) (by decide +kernel) (by rw [k_a]; rfl) rfl (by decide) fl_X4_9 (congrArg sv_a ev7) ?_
        refine sv_go C.1 C.2.1 [(.iload 4, 2)] (pc' := 23) (by decide +kernel) rfl (lv' := [(0, sv_r a), (1, sv_i d), (2, sv_i v), (3, sv_i Xg1_l3), (4, sv_i Xg1_l4)]) (st' := [sv_i Xg1_l4, sv_r v7]) rfl ?_
        refine sv_ia C (n := 60) (by decide +kernel) (by rw [kv7]; rfl) (by decide) (by omega) (by omega) ?_
        obtain ⟨v8, ev8, hv8⟩ := sv_rde hok (a := v7) (k := (Xg1_l4 : Int).toNat) (n := 60) (by rw [kv7]; rfl) (by omega)
        rw [ev8]
        refine sv_go C.1 C.2.1 [(.iload_n 1, 1)] (pc' := 25) (by decide +kernel) rfl (lv' := [(0, sv_r a), (1, sv_i d), (2, sv_i v), (3, sv_i Xg1_l3), (4, sv_i Xg1_l4)]) (st' := [sv_i d, sv_i v8]) rfl ?_
        have J11 : ∀ (Jg10_s0 : Int), (0 ≤ Jg10_s0 ∧ Jg10_s0 ≤ 1) → sv_E p l e { frames := 0, cells := 0, slots := 0, locals := 0 } s m args below meth c 6 g A ty (fun r σ' => σ = σ' ∧ ∃ rv : Int, r = [sv_i rv] ∧ ((-2147483648) ≤ rv ∧ rv ≤ 2147483647)) σ 50 [(0, sv_r a), (1, sv_i d), (2, sv_i v), (3, sv_i Xg1_l3), (4, sv_i Xg1_l4)] [sv_i Jg10_s0] := by
          intro Jg10_s0 hJg10_s0
          refine sv_go C.1 C.2.1 [(.istore 5, 2), (.iload 5, 2)] (pc' := 54) (by decide +kernel) rfl (lv' := [(0, sv_r a), (1, sv_i d), (2, sv_i v), (3, sv_i Xg1_l3), (4, sv_i Xg1_l4), (5, sv_i Jg10_s0)]) (st' := [sv_i Jg10_s0]) rfl ?_
          have J14 : ∀ (Jg13_l3 : Int), ((-2147483648) ≤ Jg13_l3 ∧ Jg13_l3 ≤ 2147483647) → sv_E p l e { frames := 0, cells := 0, slots := 0, locals := 0 } s m args below meth c 6 g A ty (fun r σ' => σ = σ' ∧ ∃ rv : Int, r = [sv_i rv] ∧ ((-2147483648) ≤ rv ∧ rv ≤ 2147483647)) σ 80 [(0, sv_r a), (1, sv_i d), (2, sv_i v), (3, sv_i Jg13_l3), (4, sv_i Xg1_l4)] [] := by
            intro Jg13_l3 hJg13_l3
            refine sv_go C.1 C.2.1 [(.iinc 4 1, 3)] (pc' := 83) (by decide +kernel) rfl (lv' := [(0, sv_r a), (1, sv_i d), (2, sv_i v), (3, sv_i Jg13_l3), (4, sv_i (Xg1_l4 + 1))]) (st' := []) rfl ?_
            refine sv_goto C.1 C.2.1 (off := (-78)) (tgt := 5) (by decide +kernel) (by decide) ?_
            exact ih3 Jg13_l3 (Xg1_l4 + 1) ⟨by omega, by omega⟩ ⟨by omega, by omega⟩ (by omega)
          refine sv_if C.1 C.2.1 (cnd := .eq) (off := 26) (tgt := 80) (by decide +kernel) (by decide) ⟨by omega, by omega⟩ (fun (h12 : Jg10_s0 = 0) => ?_) (fun (h12 : ¬ (Jg10_s0 = 0)) => ?_)
          · refine sv_pick [0, 1, 2, 3, 4] (lv2 := [(0, sv_r a), (1, sv_i d), (2, sv_i v), (3, sv_i Xg1_l3), (4, sv_i Xg1_l4)]) rfl ?_
            exact J14 Xg1_l3 ⟨by omega, by omega⟩
          · refine sv_go C.1 C.2.1 [(.iload_n 3, 1)] (pc' := 58) (by decide +kernel) rfl (lv' := [(0, sv_r a), (1, sv_i d), (2, sv_i v), (3, sv_i Xg1_l3), (4, sv_i Xg1_l4), (5, sv_i Jg10_s0)]) (st' := [sv_i Xg1_l3]) rfl ?_
            refine sv_if C.1 C.2.1 (cnd := .lt) (off := 14) (tgt := 72) (by decide +kernel) (by decide) ⟨by omega, by omega⟩ (fun (h15 : Xg1_l3 < 0) => ?_) (fun (h15 : ¬ (Xg1_l3 < 0)) => ?_)
            · refine sv_go C.1 C.2.1 [(.aload_n 0, 1)] (pc' := 73) (by decide +kernel) rfl (lv' := [(0, sv_r a), (1, sv_i d), (2, sv_i v), (3, sv_i Xg1_l3), (4, sv_i Xg1_l4), (5, sv_i Jg10_s0)]) (st' := [sv_r a]) rfl ?_
              refine sv_gf C (index := 9) (ci := 3) (k := 0) (r := (RX4, TX4, 11)) (v := sv_r v7) (by decide +kernel) (by rw [k_a]; rfl) rfl (by decide) fl_X4_9 (congrArg sv_a ev7) ?_
              refine sv_go C.1 C.2.1 [(.iload 4, 2)] (pc' := 78) (by decide +kernel) rfl (lv' := [(0, sv_r a), (1, sv_i d), (2, sv_i v), (3, sv_i Xg1_l3), (4, sv_i Xg1_l4), (5, sv_i Jg10_s0)]) (st' := [sv_i Xg1_l4, sv_r v7]) rfl ?_
              refine sv_ia C (n := 60) (by decide +kernel) (by rw [kv7]; rfl) (by decide) (by omega) (by omega) ?_
              rw [ev8]
              refine sv_go C.1 C.2.1 [(.istore_n 3, 1)] (pc' := 80) (by decide +kernel) rfl (lv' := [(0, sv_r a), (1, sv_i d), (2, sv_i v), (3, sv_i v8), (4, sv_i Xg1_l4), (5, sv_i Jg10_s0)]) (st' := []) rfl ?_
              refine sv_pick [0, 1, 2, 3, 4] (lv2 := [(0, sv_r a), (1, sv_i d), (2, sv_i v), (3, sv_i v8), (4, sv_i Xg1_l4)]) rfl ?_
              exact J14 v8 ⟨by omega, by omega⟩
            · refine sv_go C.1 C.2.1 [(.aload_n 0, 1)] (pc' := 62) (by decide +kernel) rfl (lv' := [(0, sv_r a), (1, sv_i d), (2, sv_i v), (3, sv_i Xg1_l3), (4, sv_i Xg1_l4), (5, sv_i Jg10_s0)]) (st' := [sv_r a]) rfl ?_
              refine sv_gf C (index := 9) (ci := 3) (k := 0) (r := (RX4, TX4, 11)) (v := sv_r v7) (by decide +kernel) (by rw [k_a]; rfl) rfl (by decide) fl_X4_9 (congrArg sv_a ev7) ?_
              refine sv_go C.1 C.2.1 [(.iload 4, 2)] (pc' := 67) (by decide +kernel) rfl (lv' := [(0, sv_r a), (1, sv_i d), (2, sv_i v), (3, sv_i Xg1_l3), (4, sv_i Xg1_l4), (5, sv_i Jg10_s0)]) (st' := [sv_i Xg1_l4, sv_r v7]) rfl ?_
              refine sv_ia C (n := 60) (by decide +kernel) (by rw [kv7]; rfl) (by decide) (by omega) (by omega) ?_
              rw [ev8]
              refine sv_go C.1 C.2.1 [(.iload_n 3, 1)] (pc' := 69) (by decide +kernel) rfl (lv' := [(0, sv_r a), (1, sv_i d), (2, sv_i v), (3, sv_i Xg1_l3), (4, sv_i Xg1_l4), (5, sv_i Jg10_s0)]) (st' := [sv_i Xg1_l3, sv_i v8]) rfl ?_
              refine sv_icmp C.1 C.2.1 (cnd := .ge) (off := 11) (tgt := 80) (by decide +kernel) (by decide) ⟨by omega, by omega⟩ ⟨by omega, by omega⟩ (fun (h16 : Xg1_l3 ≤ v8) => ?_) (fun (h16 : ¬ (Xg1_l3 ≤ v8)) => ?_)
              · refine sv_pick [0, 1, 2, 3, 4] (lv2 := [(0, sv_r a), (1, sv_i d), (2, sv_i v), (3, sv_i Xg1_l3), (4, sv_i Xg1_l4)]) rfl ?_
                exact J14 Xg1_l3 ⟨by omega, by omega⟩
              · refine sv_go C.1 C.2.1 [(.aload_n 0, 1)] (pc' := 73) (by decide +kernel) rfl (lv' := [(0, sv_r a), (1, sv_i d), (2, sv_i v), (3, sv_i Xg1_l3), (4, sv_i Xg1_l4), (5, sv_i Jg10_s0)]) (st' := [sv_r a]) rfl ?_
                refine sv_gf C (index := 9) (ci := 3) (k := 0) (r := (RX4, TX4, 11)) (v := sv_r v7) (by decide +kernel) (by rw [k_a]; rfl) rfl (by decide) fl_X4_9 (congrArg sv_a ev7) ?_
                refine sv_go C.1 C.2.1 [(.iload 4, 2)] (pc' := 78) (by decide +kernel) rfl (lv' := [(0, sv_r a), (1, sv_i d), (2, sv_i v), (3, sv_i Xg1_l3), (4, sv_i Xg1_l4), (5, sv_i Jg10_s0)]) (st' := [sv_i Xg1_l4, sv_r v7]) rfl ?_
                refine sv_ia C (n := 60) (by decide +kernel) (by rw [kv7]; rfl) (by decide) (by omega) (by omega) ?_
                rw [ev8]
                refine sv_go C.1 C.2.1 [(.istore_n 3, 1)] (pc' := 80) (by decide +kernel) rfl (lv' := [(0, sv_r a), (1, sv_i d), (2, sv_i v), (3, sv_i v8), (4, sv_i Xg1_l4), (5, sv_i Jg10_s0)]) (st' := []) rfl ?_
                refine sv_pick [0, 1, 2, 3, 4] (lv2 := [(0, sv_r a), (1, sv_i d), (2, sv_i v), (3, sv_i v8), (4, sv_i Xg1_l4)]) rfl ?_
                exact J14 v8 ⟨by omega, by omega⟩
        refine sv_icmp C.1 C.2.1 (cnd := .lt) (off := 24) (tgt := 49) (by decide +kernel) (by decide) ⟨by omega, by omega⟩ ⟨by omega, by omega⟩ (fun (h9 : v8 < d) => ?_) (fun (h9 : ¬ (v8 < d)) => ?_)
        · refine sv_go C.1 C.2.1 [(.iconst 0, 1)] (pc' := 50) (by decide +kernel) rfl (lv' := [(0, sv_r a), (1, sv_i d), (2, sv_i v), (3, sv_i Xg1_l3), (4, sv_i Xg1_l4)]) (st' := [sv_i 0]) rfl ?_
          exact J11 0 ⟨by omega, by omega⟩
        · refine sv_go C.1 C.2.1 [(.aload_n 0, 1)] (pc' := 29) (by decide +kernel) rfl (lv' := [(0, sv_r a), (1, sv_i d), (2, sv_i v), (3, sv_i Xg1_l3), (4, sv_i Xg1_l4)]) (st' := [sv_r a]) rfl ?_
          refine sv_gf C (index := 21) (ci := 3) (k := 2) (r := (RX4, TX4, 11)) (v := sv_r v4) (by decide +kernel) (by rw [k_a]; rfl) rfl (by decide) fl_X4_21 (congrArg sv_a ev4) ?_
          obtain ⟨v17, ev17, kv17⟩ := hI.ref (k := 0) kv4 rfl
          refine sv_gf C (index := 78) (ci := 1) (k := 0) (r := (RX1, TX1, 6)) (v := sv_r v17) (by decide +kernel) (by rw [kv4]; rfl) rfl (by decide) fl_X4_78 (congrArg sv_a ev17) ?_
          refine sv_go C.1 C.2.1 [(.iload 4, 2)] (pc' := 37) (by decide +kernel) rfl (lv' := [(0, sv_r a), (1, sv_i d), (2, sv_i v), (3, sv_i Xg1_l3), (4, sv_i Xg1_l4)]) (st' := [sv_i Xg1_l4, sv_r v17]) rfl ?_
          refine sv_aa C (N := "SaintsRoad$Feast") (by decide) (n := 60) (by decide +kernel) (by rw [kv17]; rfl) (by decide) (by omega) (by omega) ?_
          obtain ⟨v18, ev18, kv18⟩ := hI.ref (k := (Xg1_l4 : Int).toNat) kv17 (by first | rfl | (show (if _ then _ else _) = _; rw [if_pos (by omega)]))
          rw [ev18]
          obtain ⟨v19, ev19, hv19⟩ := sv_rdk hok (a := v18) (k := 7) (ci := 2) (r := (RX3, TX3, 12)) (by rw [kv18]; rfl) rfl (by decide) rfl
          refine sv_gf C (index := 95) (ci := 2) (k := 7) (r := (RX3, TX3, 12)) (v := sv_i v19) (by decide +kernel) (by rw [kv18]; rfl) rfl (by decide) fl_X4_95 (congrArg sv_i ev19) ?_
          refine sv_go C.1 C.2.1 [(.iload_n 2, 1)] (pc' := 42) (by decide +kernel) rfl (lv' := [(0, sv_r a), (1, sv_i d), (2, sv_i v), (3, sv_i Xg1_l3), (4, sv_i Xg1_l4)]) (st' := [sv_i v, sv_i v19]) rfl ?_
          refine sv_icmp C.1 C.2.1 (cnd := .gt) (off := 7) (tgt := 49) (by decide +kernel) (by decide) ⟨by omega, by omega⟩ ⟨by omega, by omega⟩ (fun (h20 : v < v19) => ?_) (fun (h20 : ¬ (v < v19)) => ?_)
          · refine sv_go C.1 C.2.1 [(.iconst 0, 1)] (pc' := 50) (by decide +kernel) rfl (lv' := [(0, sv_r a), (1, sv_i d), (2, sv_i v), (3, sv_i Xg1_l3), (4, sv_i Xg1_l4)]) (st' := [sv_i 0]) rfl ?_
            exact J11 0 ⟨by omega, by omega⟩
          · refine sv_go C.1 C.2.1 [(.iconst 1, 1)] (pc' := 46) (by decide +kernel) rfl (lv' := [(0, sv_r a), (1, sv_i d), (2, sv_i v), (3, sv_i Xg1_l3), (4, sv_i Xg1_l4)]) (st' := [sv_i 1]) rfl ?_
            refine sv_goto C.1 C.2.1 (off := 4) (tgt := 50) (by decide +kernel) (by decide) ?_
            exact J11 1 ⟨by omega, by omega⟩
  exact L2 (((60 - 0 : Int)).toNat + 1) ((-1)) 0 ⟨by omega, by omega⟩ ⟨by omega, by omega⟩ (by omega)

theorem fl_X4_144 : Cond.fieldLink RX4 144 "SaintsRoad$Feast" "name" "J" ∈ lw_good := sv_mem 188 (by decide +kernel) rfl
set_option maxHeartbeats 4000000 in
set_option maxRecDepth 100000 in
theorem sf_X4_isAlike (l : Launch) (g : sv_G) (A : Nat → Prop) (ty : Nat → Nat) (σ : Nat → Nat → Int) (hok : sv_ok ty σ) (hTA : ∀ q, ty q ≠ 0 → A q) (hI : sv_inv sp_1 ty σ) (a : Nat) (k_a : ty a = 4) (b : Nat) (k_b : ty b = 4) (d : Int) (h_d : 0 ≤ d ∧ d ≤ 365) : sv_M l yX4_isAlike cX4_isAlike 7 (some .boolean) { frames := 4, cells := 0, slots := 0, locals := 85 } g A ty σ [sv_r a, sv_r b, sv_i d] (fun r σ' => σ = σ' ∧ ∃ rv : Int, r = [sv_i rv] ∧ (0 ≤ rv ∧ rv ≤ 1)) := by
  refine sv_enter (by decide) (Nat.le_of_ble_eq_true rfl) ?_
  intro p e s m args below meth c C hr
  have C : sv_C g A RX4 cX4_isAlike 7 p s m args meth c := C
  have hr : meth.sig.returnType = (some .boolean) := hr
  have hF : sv_ofx [] [] ty σ σ := sv_ofx.rf
  refine sv_same (st2 := []) (lv2 := [(0, sv_r a), (1, sv_r b), (2, sv_i d)]) rfl rfl ?_
  refine sv_go C.1 C.2.1 [(.aload_n 0, 1), (.iload_n 2, 1)] (pc' := 2) (by decide +kernel) rfl (lv' := [(0, sv_r a), (1, sv_r b), (2, sv_i d)]) (st' := [sv_i d, sv_r a]) rfl ?_
  refine sv_cv C (index := 135) (k := 1) (rest := []) (ci := 3) (r := (RX4, TX4, 11)) (by decide +kernel) (sf_X4_officeOf l g A ty σ hok hTA hI a k_a (d) ⟨by omega, by omega⟩) ⟨co_X4_officeOf, in_X4, ⟨by decide, by decide, by decide +kernel⟩, Nat.le_of_ble_eq_true rfl, Nat.le_of_ble_eq_true rfl⟩ ml_X4_135 im_X4_officeOf se_X4_officeOf (by rw [k_a]; rfl) rfl rfl rfl (Nat.le_of_ble_eq_true rfl) ⟨Nat.zero_le _, Nat.zero_le _⟩ (fun r2 σ3 hpo1 hok4 => ?_)
  obtain ⟨rfl, ⟨vu5, rfl, hvu5⟩⟩ := hpo1
  refine sv_same (st2 := [sv_i vu5]) (lv2 := [(0, sv_r a), (1, sv_r b), (2, sv_i d)]) rfl rfl ?_
  refine sv_go C.1 C.2.1 [(.istore_n 3, 1), (.aload_n 1, 1), (.iload_n 2, 1)] (pc' := 8) (by decide +kernel) rfl (lv' := [(0, sv_r a), (1, sv_r b), (2, sv_i d), (3, sv_i vu5)]) (st' := [sv_i d, sv_r b]) rfl ?_
  refine sv_cv C (index := 135) (k := 1) (rest := []) (ci := 3) (r := (RX4, TX4, 11)) (by decide +kernel) (sf_X4_officeOf l g A ty σ hok4 hTA hI b k_b (d) ⟨by omega, by omega⟩) ⟨co_X4_officeOf, in_X4, ⟨by decide, by decide, by decide +kernel⟩, Nat.le_of_ble_eq_true rfl, Nat.le_of_ble_eq_true rfl⟩ ml_X4_135 im_X4_officeOf se_X4_officeOf (by rw [k_b]; rfl) rfl rfl rfl (Nat.le_of_ble_eq_true rfl) ⟨Nat.zero_le _, Nat.zero_le _⟩ (fun r7 σ8 hpo6 hok9 => ?_)
  obtain ⟨rfl, ⟨vu10, rfl, hvu10⟩⟩ := hpo6
  refine sv_same (st2 := [sv_i vu10]) (lv2 := [(0, sv_r a), (1, sv_r b), (2, sv_i d), (3, sv_i vu5)]) rfl rfl ?_
  refine sv_go C.1 C.2.1 [(.istore 4, 2), (.aload_n 0, 1), (.iload_n 3, 1)] (pc' := 15) (by decide +kernel) rfl (lv' := [(0, sv_r a), (1, sv_r b), (2, sv_i d), (3, sv_i vu5), (4, sv_i vu10)]) (st' := [sv_i vu5, sv_r a]) rfl ?_
  refine sv_cv C (index := 138) (k := 1) (rest := []) (ci := 3) (r := (RX4, TX4, 11)) (by decide +kernel) (sf_X4_feastOf l g A ty σ hok9 hTA hI a k_a (vu5) ⟨by omega, by omega⟩) ⟨co_X4_feastOf, in_X4, ⟨by decide, by decide, by decide +kernel⟩, Nat.le_of_ble_eq_true rfl, Nat.le_of_ble_eq_true rfl⟩ ml_X4_138 im_X4_feastOf se_X4_feastOf (by rw [k_a]; rfl) rfl rfl rfl (Nat.le_of_ble_eq_true rfl) ⟨Nat.zero_le _, Nat.zero_le _⟩ (fun r12 σ13 hpo11 hok14 => ?_)
  obtain ⟨rfl, ⟨zu15, rfl, hzu15⟩⟩ := hpo11
  refine sv_same (st2 := [sv_a zu15]) (lv2 := [(0, sv_r a), (1, sv_r b), (2, sv_i d), (3, sv_i vu5), (4, sv_i vu10)]) rfl rfl ?_
  refine sv_go C.1 C.2.1 [(.astore 5, 2), (.aload_n 1, 1), (.iload 4, 2)] (pc' := 23) (by decide +kernel) rfl (lv' := [(0, sv_r a), (1, sv_r b), (2, sv_i d), (3, sv_i vu5), (4, sv_i vu10), (5, sv_a zu15)]) (st' := [sv_i vu10, sv_r b]) rfl ?_
  refine sv_cv C (index := 138) (k := 1) (rest := []) (ci := 3) (r := (RX4, TX4, 11)) (by decide +kernel) (sf_X4_feastOf l g A ty σ hok14 hTA hI b k_b (vu10) ⟨by omega, by omega⟩) ⟨co_X4_feastOf, in_X4, ⟨by decide, by decide, by decide +kernel⟩, Nat.le_of_ble_eq_true rfl, Nat.le_of_ble_eq_true rfl⟩ ml_X4_138 im_X4_feastOf se_X4_feastOf (by rw [k_b]; rfl) rfl rfl rfl (Nat.le_of_ble_eq_true rfl) ⟨Nat.zero_le _, Nat.zero_le _⟩ (fun r17 σ18 hpo16 hok19 => ?_)
  obtain ⟨rfl, ⟨zu20, rfl, hzu20⟩⟩ := hpo16
  refine sv_same (st2 := [sv_a zu20]) (lv2 := [(0, sv_r a), (1, sv_r b), (2, sv_i d), (3, sv_i vu5), (4, sv_i vu10), (5, sv_a zu15)]) rfl rfl ?_
  refine sv_go C.1 C.2.1 [(.astore 6, 2), (.aload 5, 2)] (pc' := 30) (by decide +kernel) rfl (lv' := [(0, sv_r a), (1, sv_r b), (2, sv_i d), (3, sv_i vu5), (4, sv_i vu10), (5, sv_a zu15), (6, sv_a zu20)]) (st' := [sv_a zu15]) rfl ?_
  rcases hzu15 with rfl | ⟨q21, rfl, kq21⟩
  · refine sv_ifnull C.1 C.2.1 (off := 8) (tgt := 38) (by decide +kernel) (by decide) (by omega) (fun _ => ?_) (fun (h22 : 0 < (0 : Int)) => absurd h22 (by omega))
    refine sv_go C.1 C.2.1 [(.iload_n 3, 1), (.iload 4, 2)] (pc' := 41) (by decide +kernel) rfl (lv' := [(0, sv_r a), (1, sv_r b), (2, sv_i d), (3, sv_i vu5), (4, sv_i vu10), (5, sv_a 0), (6, sv_a zu20)]) (st' := [sv_i vu10, sv_i vu5]) rfl ?_
    refine sv_icmp C.1 C.2.1 (cnd := .ne) (off := 7) (tgt := 48) (by decide +kernel) (by decide) ⟨by omega, by omega⟩ ⟨by omega, by omega⟩ (fun (h23 : vu5 ≠ vu10) => ?_) (fun (h23 : ¬ (vu5 ≠ vu10)) => ?_)
    · refine sv_go C.1 C.2.1 [(.iconst 0, 1)] (pc' := 49) (by decide +kernel) rfl (lv' := [(0, sv_r a), (1, sv_r b), (2, sv_i d), (3, sv_i vu5), (4, sv_i vu10), (5, sv_a 0), (6, sv_a zu20)]) (st' := [sv_i 0]) rfl ?_
      exact sv_zret C hr (by omega) (by decide +kernel) hok19 (⟨rfl, ⟨_, rfl, ⟨by omega, by omega⟩⟩⟩)
    · refine sv_go C.1 C.2.1 [(.iconst 1, 1)] (pc' := 45) (by decide +kernel) rfl (lv' := [(0, sv_r a), (1, sv_r b), (2, sv_i d), (3, sv_i vu5), (4, sv_i vu10), (5, sv_a 0), (6, sv_a zu20)]) (st' := [sv_i 1]) rfl ?_
      refine sv_goto C.1 C.2.1 (off := 4) (tgt := 49) (by decide +kernel) (by decide) ?_
      exact sv_zret C hr (by omega) (by decide +kernel) hok19 (⟨rfl, ⟨_, rfl, ⟨by omega, by omega⟩⟩⟩)
  · refine sv_ifnull C.1 C.2.1 (off := 8) (tgt := 38) (by decide +kernel) (by decide) (by omega) (fun (h24 : (q21 : Int) + 1 = 0) => absurd h24 (by omega)) (fun _ => ?_)
    refine sv_go C.1 C.2.1 [(.aload 6, 2)] (pc' := 35) (by decide +kernel) rfl (lv' := [(0, sv_r a), (1, sv_r b), (2, sv_i d), (3, sv_i vu5), (4, sv_i vu10), (5, sv_r q21), (6, sv_a zu20)]) (st' := [sv_a zu20]) rfl ?_
    rcases hzu20 with rfl | ⟨q25, rfl, kq25⟩
    · refine sv_ifnonnull C.1 C.2.1 (off := 15) (tgt := 50) (by decide +kernel) (by decide) (by omega) (fun (h26 : 0 < (0 : Int)) => absurd h26 (by omega)) (fun _ => ?_)
      refine sv_go C.1 C.2.1 [(.iload_n 3, 1), (.iload 4, 2)] (pc' := 41) (by decide +kernel) rfl (lv' := [(0, sv_r a), (1, sv_r b), (2, sv_i d), (3, sv_i vu5), (4, sv_i vu10), (5, sv_r q21), (6, sv_a 0)]) (st' := [sv_i vu10, sv_i vu5]) rfl ?_
      refine sv_icmp C.1 C.2.1 (cnd := .ne) (off := 7) (tgt := 48) (by decide +kernel) (by decide) ⟨by omega, by omega⟩ ⟨by omega, by omega⟩ (fun (h27 : vu5 ≠ vu10) => ?_) (fun (h27 : ¬ (vu5 ≠ vu10)) => ?_)
      · refine sv_go C.1 C.2.1 [(.iconst 0, 1)] (pc' := 49) (by decide +kernel) rfl (lv' := [(0, sv_r a), (1, sv_r b), (2, sv_i d), (3, sv_i vu5), (4, sv_i vu10), (5, sv_r q21), (6, sv_a 0)]) (st' := [sv_i 0]) rfl ?_
        exact sv_zret C hr (by omega) (by decide +kernel) hok19 (⟨rfl, ⟨_, rfl, ⟨by omega, by omega⟩⟩⟩)
      · refine sv_go C.1 C.2.1 [(.iconst 1, 1)] (pc' := 45) (by decide +kernel) rfl (lv' := [(0, sv_r a), (1, sv_r b), (2, sv_i d), (3, sv_i vu5), (4, sv_i vu10), (5, sv_r q21), (6, sv_a 0)]) (st' := [sv_i 1]) rfl ?_
        refine sv_goto C.1 C.2.1 (off := 4) (tgt := 49) (by decide +kernel) (by decide) ?_
        exact sv_zret C hr (by omega) (by decide +kernel) hok19 (⟨rfl, ⟨_, rfl, ⟨by omega, by omega⟩⟩⟩)
    · refine sv_ifnonnull C.1 C.2.1 (off := 15) (tgt := 50) (by decide +kernel) (by decide) (by omega) (fun _ => ?_) (fun (h28 : (q25 : Int) + 1 = 0) => absurd h28 (by omega))
      refine sv_go C.1 C.2.1 [(.iload_n 3, 1)] (pc' := 51) (by decide +kernel) rfl (lv' := [(0, sv_r a), (1, sv_r b), (2, sv_i d), (3, sv_i vu5), (4, sv_i vu10), (5, sv_r q21), (6, sv_r q25)]) (st' := [sv_i vu5]) rfl ?_
      have J31 : ∀ (Jg30_s0 : Int), (0 ≤ Jg30_s0 ∧ Jg30_s0 ≤ 1) → sv_E p l e { frames := 4, cells := 0, slots := 0, locals := 85 } s m args below meth c 7 g A ty (fun r σ' => σ = σ' ∧ ∃ rv : Int, r = [sv_i rv] ∧ (0 ≤ rv ∧ rv ≤ 1)) σ 59 [(4, sv_i vu10), (5, sv_r q21), (6, sv_r q25)] [sv_i Jg30_s0] := by
        intro Jg30_s0 hJg30_s0
        refine sv_go C.1 C.2.1 [(.iload 4, 2)] (pc' := 61) (by decide +kernel) rfl (lv' := [(4, sv_i vu10), (5, sv_r q21), (6, sv_r q25)]) (st' := [sv_i vu10, sv_i Jg30_s0]) rfl ?_
        have J34 : ∀ (Jg33_s0 : Int), (0 ≤ Jg33_s0 ∧ Jg33_s0 ≤ 1) → sv_E p l e { frames := 4, cells := 0, slots := 0, locals := 85 } s m args below meth c 7 g A ty (fun r σ' => σ = σ' ∧ ∃ rv : Int, r = [sv_i rv] ∧ (0 ≤ rv ∧ rv ≤ 1)) σ 69 [(5, sv_r q21), (6, sv_r q25)] [sv_i Jg33_s0, sv_i Jg30_s0] := by
          intro Jg33_s0 hJg33_s0
          refine sv_icmp C.1 C.2.1 (cnd := .ne) (off := 21) (tgt := 90) (by decide +kernel) (by decide) ⟨by omega, by omega⟩ ⟨by omega, by omega⟩ (fun (h35 : Jg30_s0 ≠ Jg33_s0) => ?_) (fun (h35 : ¬ (Jg30_s0 ≠ Jg33_s0)) => ?_)
          · refine sv_go C.1 C.2.1 [(.iconst 0, 1)] (pc' := 91) (by decide +kernel) rfl (lv' := [(5, sv_r q21), (6, sv_r q25)]) (st' := [sv_i 0]) rfl ?_
            exact sv_zret C hr (by omega) (by decide +kernel) hok19 (⟨rfl, ⟨_, rfl, ⟨by omega, by omega⟩⟩⟩)
          · refine sv_go C.1 C.2.1 [(.aload 5, 2)] (pc' := 74) (by decide +kernel) rfl (lv' := [(5, sv_r q21), (6, sv_r q25)]) (st' := [sv_r q21]) rfl ?_
            obtain ⟨v36, ev36, hv36⟩ := sv_rdl hok19 (a := q21) (k := 0) (ci := 2) (r := (RX3, TX3, 12)) (by rw [kq21]; rfl) rfl (by decide) rfl
            refine sv_gf C (index := 144) (ci := 2) (k := 0) (r := (RX3, TX3, 12)) (v := sv_l v36) (by decide +kernel) (by rw [kq21]; rfl) rfl (by decide) fl_X4_144 (congrArg sv_l ev36) ?_
            refine sv_go C.1 C.2.1 [(.aload 6, 2)] (pc' := 79) (by decide +kernel) rfl (lv' := [(5, sv_r q21), (6, sv_r q25)]) (st' := [sv_r q25, sv_l v36]) rfl ?_
            obtain ⟨v37, ev37, hv37⟩ := sv_rdl hok19 (a := q25) (k := 0) (ci := 2) (r := (RX3, TX3, 12)) (by rw [kq25]; rfl) rfl (by decide) rfl
            refine sv_gf C (index := 144) (ci := 2) (k := 0) (r := (RX3, TX3, 12)) (v := sv_l v37) (by decide +kernel) (by rw [kq25]; rfl) rfl (by decide) fl_X4_144 (congrArg sv_l ev37) ?_
            refine sv_lcmp C.1 C.2.1 (by decide +kernel) ⟨by omega, by omega⟩ ⟨by omega, by omega⟩ (fun z39 (h38 : sv_sg z39 v36 v37) => ?_)
            obtain ⟨h38z, h38l, h38e, h38g⟩ := h38
            refine sv_if C.1 C.2.1 (cnd := .ne) (off := 7) (tgt := 90) (by decide +kernel) (by decide) ⟨by omega, by omega⟩ (fun (h40 : z39 ≠ 0) => ?_) (fun (h40 : ¬ (z39 ≠ 0)) => ?_)
            · refine sv_go C.1 C.2.1 [(.iconst 0, 1)] (pc' := 91) (by decide +kernel) rfl (lv' := [(5, sv_r q21), (6, sv_r q25)]) (st' := [sv_i 0]) rfl ?_
              exact sv_zret C hr (by omega) (by decide +kernel) hok19 (⟨rfl, ⟨_, rfl, ⟨by omega, by omega⟩⟩⟩)
            · refine sv_go C.1 C.2.1 [(.iconst 1, 1)] (pc' := 87) (by decide +kernel) rfl (lv' := [(5, sv_r q21), (6, sv_r q25)]) (st' := [sv_i 1]) rfl ?_
              refine sv_goto C.1 C.2.1 (off := 4) (tgt := 91) (by decide +kernel) (by decide) ?_
              exact sv_zret C hr (by omega) (by decide +kernel) hok19 (⟨rfl, ⟨_, rfl, ⟨by omega, by omega⟩⟩⟩)
        refine sv_if C.1 C.2.1 (cnd := .lt) (off := 7) (tgt := 68) (by decide +kernel) (by decide) ⟨by omega, by omega⟩ (fun (h32 : vu10 < 0) => ?_) (fun (h32 : ¬ (vu10 < 0)) => ?_)
        · refine sv_go C.1 C.2.1 [(.iconst 0, 1)] (pc' := 69) (by decide +kernel) rfl (lv' := [(4, sv_i vu10), (5, sv_r q21), (6, sv_r q25)]) (st' := [sv_i 0, sv_i Jg30_s0]) rfl ?_
          refine sv_pick [1, 2] (lv2 := [(5, sv_r q21), (6, sv_r q25)]) rfl ?_
          exact J34 0 ⟨by omega, by omega⟩
        · refine sv_go C.1 C.2.1 [(.iconst 1, 1)] (pc' := 65) (by decide +kernel) rfl (lv' := [(4, sv_i vu10), (5, sv_r q21), (6, sv_r q25)]) (st' := [sv_i 1, sv_i Jg30_s0]) rfl ?_
          refine sv_goto C.1 C.2.1 (off := 4) (tgt := 69) (by decide +kernel) (by decide) ?_
          refine sv_pick [1, 2] (lv2 := [(5, sv_r q21), (6, sv_r q25)]) rfl ?_
          exact J34 1 ⟨by omega, by omega⟩
      refine sv_if C.1 C.2.1 (cnd := .lt) (off := 7) (tgt := 58) (by decide +kernel) (by decide) ⟨by omega, by omega⟩ (fun (h29 : vu5 < 0) => ?_) (fun (h29 : ¬ (vu5 < 0)) => ?_)
      · refine sv_go C.1 C.2.1 [(.iconst 0, 1)] (pc' := 59) (by decide +kernel) rfl (lv' := [(0, sv_r a), (1, sv_r b), (2, sv_i d), (3, sv_i vu5), (4, sv_i vu10), (5, sv_r q21), (6, sv_r q25)]) (st' := [sv_i 0]) rfl ?_
        refine sv_pick [4, 5, 6] (lv2 := [(4, sv_i vu10), (5, sv_r q21), (6, sv_r q25)]) rfl ?_
        exact J31 0 ⟨by omega, by omega⟩
      · refine sv_go C.1 C.2.1 [(.iconst 1, 1)] (pc' := 55) (by decide +kernel) rfl (lv' := [(0, sv_r a), (1, sv_r b), (2, sv_i d), (3, sv_i vu5), (4, sv_i vu10), (5, sv_r q21), (6, sv_r q25)]) (st' := [sv_i 1]) rfl ?_
        refine sv_goto C.1 C.2.1 (off := 4) (tgt := 59) (by decide +kernel) (by decide) ?_
        refine sv_pick [4, 5, 6] (lv2 := [(4, sv_i vu10), (5, sv_r q21), (6, sv_r q25)]) rfl ?_
        exact J31 1 ⟨by omega, by omega⟩

set_option maxHeartbeats 4000000 in
set_option maxRecDepth 100000 in
theorem sf_X0_startTurns2 (l : Launch) (g : sv_G) (A : Nat → Prop) (ty : Nat → Nat) (σ : Nat → Nat → Int) (hok : sv_ok ty σ) (hTA : ∀ q, ty q ≠ 0 → A q) (hI : sv_inv sp_1 ty σ) (a : Nat) (k_a : ty a = 5) (v : Int) (h_v : (-2147483648) ≤ v ∧ v ≤ 2147483647) : sv_M l yX0_startTurns cX0_startTurns 2 none { frames := 1, cells := 0, slots := 0, locals := 23 } g A ty σ [sv_r a, sv_i v] (fun r σ' => (r = []) ∧ sv_inv sp_1 ty σ' ∧ sv_ofx [(5, 2), (5, 9), (5, 10)] [30, 32] ty σ σ' ∧ σ' a 2 = 0) := by
  refine sv_enter (by decide) (Nat.le_of_ble_eq_true rfl) ?_
  intro p e s m args below meth c C hr
  have C : sv_C g A RX0 cX0_startTurns 2 p s m args meth c := C
  have hr : meth.sig.returnType = none := hr
  have hF : sv_ofx [(5, 2), (5, 9), (5, 10)] [30, 32] ty σ σ := sv_ofx.rf
  refine sv_same (st2 := []) (lv2 := [(0, sv_r a), (1, sv_i v)]) rfl rfl ?_
  refine sv_go C.1 C.2.1 [(.aload_n 0, 1), (.iload_n 1, 1)] (pc' := 2) (by decide +kernel) rfl (lv' := [(0, sv_r a), (1, sv_i v)]) (st' := [sv_i v, sv_r a]) rfl ?_
  refine sv_pf C (index := 37) (ci := 0) (k := 9) (r := (RX0, TX0, 12)) (z := v) (by decide +kernel) (by rw [k_a]; rfl) rfl (by decide) rfl fl_X0_37 rfl (Or.inl rfl) ⟨by omega, by omega⟩ (hTA _ (by rw [k_a]; decide)) hok (fun hok1 => ?_)
  have hI3 := hI.up (a := a) (k := 9) (z := v) (by rw [k_a]; exact trivial)
  have hF4 := hF.up (a := a) (k := 9) (z := v) (Or.inr (by rw [k_a]; decide))
  generalize eσ2 : sv_up σ a 9 v = σ2 at hok1 hI3 hF4 ⊢
  have t5 : σ2 a 9 = v := by rw [← eσ2]; exact sv_up_s _ _ _ _
  refine sv_go C.1 C.2.1 [(.aload_n 0, 1), (.iconst 0, 1)] (pc' := 7) (by decide +kernel) rfl (lv' := [(0, sv_r a), (1, sv_i v)]) (st' := [sv_i 0, sv_r a]) rfl ?_
  refine sv_pf C (index := 40) (ci := 0) (k := 2) (r := (RX0, TX0, 12)) (z := 0) (by decide +kernel) (by rw [k_a]; rfl) rfl (by decide) rfl fl_X0_40 rfl (Or.inl rfl) ⟨by omega, by omega⟩ (hTA _ (by rw [k_a]; decide)) hok1 (fun hok6 => ?_)
  have hI8 := hI3.up (a := a) (k := 2) (z := 0) (by rw [k_a]; exact ⟨by omega, by omega⟩)
  have hF9 := hF4.up (a := a) (k := 2) (z := 0) (Or.inr (by rw [k_a]; decide))
  generalize eσ7 : sv_up σ2 a 2 0 = σ7 at hok6 hI8 hF9 ⊢
  have t10 : σ7 a 9 = v := by rw [← eσ7, sv_up_k (by decide)]; exact t5
  have t11 : σ7 a 2 = 0 := by rw [← eσ7]; exact sv_up_s _ _ _ _
  refine sv_go C.1 C.2.1 [(.aload_n 0, 1), (.iconst (-1), 1)] (pc' := 12) (by decide +kernel) rfl (lv' := [(0, sv_r a), (1, sv_i v)]) (st' := [sv_i ((-1)), sv_r a]) rfl ?_
  refine sv_pf C (index := 43) (ci := 0) (k := 10) (r := (RX0, TX0, 12)) (z := (-1)) (by decide +kernel) (by rw [k_a]; rfl) rfl (by decide) rfl fl_X0_43 rfl (Or.inl rfl) ⟨by omega, by omega⟩ (hTA _ (by rw [k_a]; decide)) hok6 (fun hok12 => ?_)
  have hI14 := hI8.up (a := a) (k := 10) (z := (-1)) (by rw [k_a]; exact ⟨by omega, by omega⟩)
  have hF15 := hF9.up (a := a) (k := 10) (z := (-1)) (Or.inr (by rw [k_a]; decide))
  generalize eσ13 : sv_up σ7 a 10 ((-1)) = σ13 at hok12 hI14 hF15 ⊢
  have t16 : σ13 a 9 = v := by rw [← eσ13, sv_up_k (by decide)]; exact t10
  have t17 : σ13 a 2 = 0 := by rw [← eσ13, sv_up_k (by decide)]; exact t11
  have t18 : σ13 a 10 = (-1) := by rw [← eσ13]; exact sv_up_s _ _ _ _
  refine sv_go C.1 C.2.1 [(.aload_n 0, 1)] (pc' := 16) (by decide +kernel) rfl (lv' := [(0, sv_r a), (1, sv_i v)]) (st' := [sv_r a]) rfl ?_
  obtain ⟨v19, ev19, kv19⟩ := hI14.ref (k := 0) k_a rfl
  refine sv_gf C (index := 9) (ci := 0) (k := 0) (r := (RX0, TX0, 12)) (v := sv_r v19) (by decide +kernel) (by rw [k_a]; rfl) rfl (by decide) fl_X0_9 (congrArg sv_a ev19) ?_
  refine sv_go C.1 C.2.1 [(.iconst 0, 1)] (pc' := 20) (by decide +kernel) rfl (lv' := [(0, sv_r a), (1, sv_i v)]) (st' := [sv_i 0, sv_r v19]) rfl ?_
  refine sv_cs C (index := 46) (k := 2) (rest := []) (by decide +kernel) (ct_fill l g A ty σ13 hok12 v19 10 (by rw [kv19]; rfl) (by decide) (hTA _ (by rw [kv19]; decide)) (0) ⟨by omega, by omega⟩) ⟨co_J7_fill_53178, in_J7, ⟨by decide, by decide, by decide +kernel⟩, Nat.le_of_ble_eq_true rfl, Nat.le_of_ble_eq_true rfl⟩ ml_X0_46 st_J7_fill_53178 rfl rfl (Nat.le_of_ble_eq_true rfl) ⟨Nat.zero_le _, Nat.zero_le _⟩ (fun r21 σ22 hpo20 hok23 => ?_)
  obtain ⟨rfl, h1u24, h2u24, h3u24⟩ := hpo20
  have hIu24 := hI14.fill (b := v19) (n := 10) (v := 0) (fun k => by rw [kv19]; exact trivial) h1u24 h2u24 h3u24
  have hGu24 := hF15.fill (b := v19) (by rw [kv19]; decide) h1u24
  have t25 : σ22 a 9 = v := (h1u24 a (sv_ne k_a kv19 (by decide)) 9).trans t16
  have t26 : σ22 a 2 = 0 := (h1u24 a (sv_ne k_a kv19 (by decide)) 2).trans t17
  have t27 : σ22 a 10 = (-1) := (h1u24 a (sv_ne k_a kv19 (by decide)) 10).trans t18
  have t28 : σ22 a 0 = (v19 : Int) + 1 := (h1u24 a (sv_ne k_a kv19 (by decide)) 0).trans ev19
  refine sv_same (st2 := []) (lv2 := [(0, sv_r a), (1, sv_i v)]) rfl rfl ?_
  refine sv_go C.1 C.2.1 [(.aload_n 0, 1)] (pc' := 24) (by decide +kernel) rfl (lv' := [(0, sv_r a), (1, sv_i v)]) (st' := [sv_r a]) rfl ?_
  obtain ⟨v29, ev29, kv29⟩ := hIu24.ref (k := 4) k_a rfl
  refine sv_gf C (index := 18) (ci := 0) (k := 4) (r := (RX0, TX0, 12)) (v := sv_r v29) (by decide +kernel) (by rw [k_a]; rfl) rfl (by decide) fl_X0_18 (congrArg sv_a ev29) ?_
  refine sv_go C.1 C.2.1 [(.iconst (-1), 1)] (pc' := 28) (by decide +kernel) rfl (lv' := [(0, sv_r a), (1, sv_i v)]) (st' := [sv_i ((-1)), sv_r v29]) rfl ?_
  refine sv_cs C (index := 46) (k := 2) (rest := []) (by decide +kernel) (ct_fill l g A ty σ22 hok23 v29 10 (by rw [kv29]; rfl) (by decide) (hTA _ (by rw [kv29]; decide)) ((-1)) ⟨by omega, by omega⟩) ⟨co_J7_fill_53178, in_J7, ⟨by decide, by decide, by decide +kernel⟩, Nat.le_of_ble_eq_true rfl, Nat.le_of_ble_eq_true rfl⟩ ml_X0_46 st_J7_fill_53178 rfl rfl (Nat.le_of_ble_eq_true rfl) ⟨Nat.zero_le _, Nat.zero_le _⟩ (fun r31 σ32 hpo30 hok33 => ?_)
  obtain ⟨rfl, h1u34, h2u34, h3u34⟩ := hpo30
  have hIu34 := hIu24.fill (b := v29) (n := 10) (v := (-1)) (fun k => by rw [kv29]; exact trivial) h1u34 h2u34 h3u34
  have hGu34 := hGu24.fill (b := v29) (by rw [kv29]; decide) h1u34
  have t35 : σ32 a 9 = v := (h1u34 a (sv_ne k_a kv29 (by decide)) 9).trans t25
  have t36 : σ32 a 2 = 0 := (h1u34 a (sv_ne k_a kv29 (by decide)) 2).trans t26
  have t37 : σ32 a 10 = (-1) := (h1u34 a (sv_ne k_a kv29 (by decide)) 10).trans t27
  have t38 : σ32 a 0 = (v19 : Int) + 1 := (h1u34 a (sv_ne k_a kv29 (by decide)) 0).trans t28
  have t39 : σ32 a 4 = (v29 : Int) + 1 := (h1u34 a (sv_ne k_a kv29 (by decide)) 4).trans ev29
  refine sv_same (st2 := []) (lv2 := [(0, sv_r a), (1, sv_i v)]) rfl rfl ?_
  exact sv_vret C hr (by decide +kernel) hok33 (⟨rfl, hIu34, hGu34, t36⟩)

theorem ml_X0_52 : Cond.methodLink RX0 52 yX2_daysAhead ∈ lw_good := sv_mem 849 (by decide +kernel) rfl
theorem ml_X0_58 : Cond.methodLink RX0 58 yX0_allowed ∈ lw_good := sv_mem 850 (by decide +kernel) rfl
theorem co_X0_allowed : Cond.code yX0_allowed cX0_allowed 3 (some .int) ∈ lw_good := sv_mem 853 (by decide +kernel) rfl
theorem im_X0_allowed : Cond.instanceMethod yX0_allowed ∈ lw_good := sv_mem 852 (by decide +kernel) rfl
theorem se_X0_allowed : Cond.selects RX0 yX0_allowed yX0_allowed ∈ lw_good := sv_mem 32 (by decide +kernel) rfl
theorem ml_X0_61 : Cond.methodLink RX0 61 yX0_fairest ∈ lw_good := sv_mem 854 (by decide +kernel) rfl
theorem co_X0_fairest : Cond.code yX0_fairest cX0_fairest 4 (some .int) ∈ lw_good := sv_mem 857 (by decide +kernel) rfl
theorem im_X0_fairest : Cond.instanceMethod yX0_fairest ∈ lw_good := sv_mem 856 (by decide +kernel) rfl
theorem se_X0_fairest : Cond.selects RX0 yX0_fairest yX0_fairest ∈ lw_good := sv_mem 33 (by decide +kernel) rfl
set_option maxHeartbeats 4000000 in
set_option maxRecDepth 100000 in
theorem sf_X0_carry (l : Launch) (g : sv_G) (A : Nat → Prop) (ty : Nat → Nat) (σ : Nat → Nat → Int) (hok : sv_ok ty σ) (hTA : ∀ q, ty q ≠ 0 → A q) (hI : sv_inv sp_1 ty σ) (a : Nat) (k_a : ty a = 5) (y : Int) (h_y : 1 ≤ y ∧ y ≤ 2000) (d : Int) (h_d : 0 ≤ d ∧ d ≤ 365) (f : Int) (h_f : (-2147483648) ≤ f ∧ f ≤ 2147483647) (t2 : Int) (h_t2 : 0 ≤ t2 ∧ t2 ≤ 7319) (ht2 : σ a 2 = t2) : sv_M l yX0_carry cX0_carry 6 none { frames := 2, cells := 0, slots := 0, locals := 45 } g A ty σ [sv_r a, sv_i y, sv_i d, sv_i f] (fun r σ' => (r = []) ∧ sv_inv sp_1 ty σ' ∧ sv_ofx [(5, 2), (5, 10), (5, 11)] [30, 32, 33, 34, 35, 36] ty σ σ' ∧ (t2 ≤ σ' a 2 ∧ σ' a 2 ≤ t2 + 1)) := by
  refine sv_enter (by decide) (Nat.le_of_ble_eq_true rfl) ?_
  intro p e s m args below meth c C hr
  have C : sv_C g A RX0 cX0_carry 6 p s m args meth c := C
  have hr : meth.sig.returnType = none := hr
  have hF : sv_ofx [(5, 2), (5, 10), (5, 11)] [30, 32, 33, 34, 35, 36] ty σ σ := sv_ofx.rf
  refine sv_same (st2 := []) (lv2 := [(0, sv_r a), (1, sv_i y), (2, sv_i d), (3, sv_i f)]) rfl rfl ?_
  refine sv_go C.1 C.2.1 [(.iload_n 1, 1)] (pc' := 1) (by decide +kernel) rfl (lv' := [(0, sv_r a), (1, sv_i y), (2, sv_i d), (3, sv_i f)]) (st' := [sv_i y]) rfl ?_
  refine sv_cs C (index := 52) (k := 1) (rest := []) (by decide +kernel) (sf_X2_daysAhead l g A ty σ hok hTA hI (y) ⟨by omega, by omega⟩) ⟨co_X2_daysAhead, in_X2, ⟨by decide, by decide, by decide +kernel⟩, Nat.le_of_ble_eq_true rfl, Nat.le_of_ble_eq_true rfl⟩ ml_X0_52 st_X2_daysAhead rfl rfl (Nat.le_of_ble_eq_true rfl) ⟨Nat.zero_le _, Nat.zero_le _⟩ (fun r2 σ3 hpo1 hok4 => ?_)
  obtain ⟨rfl, ⟨vu5, rfl, hvu5⟩⟩ := hpo1
  refine sv_same (st2 := [sv_i vu5]) (lv2 := [(0, sv_r a), (1, sv_i y), (2, sv_i d), (3, sv_i f)]) rfl rfl ?_
  refine sv_go C.1 C.2.1 [(.iload_n 2, 1), (.iadd, 1), (.istore 4, 2), (.aload_n 0, 1), (.aload_n 0, 1), (.iload 4, 2)] (pc' := 12) (by decide +kernel) rfl (lv' := [(0, sv_r a), (1, sv_i y), (2, sv_i d), (3, sv_i f), (4, sv_i (vu5 + d))]) (st' := [sv_i (vu5 + d), sv_r a, sv_r a]) rfl ?_
  obtain ⟨w6, hw6, ew6⟩ := sv_wr (vu5 + d)
  refine sv_sameD (st2 := [sv_i w6, sv_r a, sv_r a]) (lv2 := [(0, sv_r a), (1, sv_i y), (2, sv_i d), (3, sv_i f), (4, sv_i (vu5 + d))]) (by simp only [List.map_cons, List.map_nil, sv_den_i, ew6]) rfl ?_
  refine sv_cv C (index := 58) (k := 1) (rest := [sv_r a]) (ci := 0) (r := (RX0, TX0, 12)) (by decide +kernel) (sf_X0_allowed l g A ty σ hok4 hTA hI a k_a (w6) ⟨by omega, by omega⟩) ⟨co_X0_allowed, in_X0, ⟨by decide, by decide, by decide +kernel⟩, Nat.le_of_ble_eq_true rfl, Nat.le_of_ble_eq_true rfl⟩ ml_X0_58 im_X0_allowed se_X0_allowed (by rw [k_a]; rfl) rfl rfl rfl (Nat.le_of_ble_eq_true rfl) ⟨Nat.zero_le _, Nat.zero_le _⟩ (fun r8 σ9 hpo7 hok10 => ?_)
  obtain ⟨rfl, ⟨vu11, rfl, hvu11⟩⟩ := hpo7
  refine sv_same (st2 := [sv_i vu11, sv_r a]) (lv2 := [(0, sv_r a), (1, sv_i y), (2, sv_i d), (3, sv_i f), (4, sv_i (vu5 + d))]) rfl rfl ?_
  refine sv_cv C (index := 61) (k := 1) (rest := []) (ci := 0) (r := (RX0, TX0, 12)) (by decide +kernel) (sf_X0_fairest l g A ty σ hok10 hTA hI a k_a (vu11) ⟨by omega, by omega⟩) ⟨co_X0_fairest, in_X0, ⟨by decide, by decide, by decide +kernel⟩, Nat.le_of_ble_eq_true rfl, Nat.le_of_ble_eq_true rfl⟩ ml_X0_61 im_X0_fairest se_X0_fairest (by rw [k_a]; rfl) rfl rfl rfl (Nat.le_of_ble_eq_true rfl) ⟨Nat.zero_le _, Nat.zero_le _⟩ (fun r13 σ14 hpo12 hok15 => ?_)
  obtain ⟨rfl, ⟨vu16, rfl, hvu16⟩⟩ := hpo12
  refine sv_same (st2 := [sv_i vu16]) (lv2 := [(0, sv_r a), (1, sv_i y), (2, sv_i d), (3, sv_i f), (4, sv_i (vu5 + d))]) rfl rfl ?_
  refine sv_go C.1 C.2.1 [(.istore 5, 2), (.iload 5, 2)] (pc' := 22) (by decide +kernel) rfl (lv' := [(0, sv_r a), (1, sv_i y), (2, sv_i d), (3, sv_i f), (4, sv_i (vu5 + d)), (5, sv_i vu16)]) (st' := [sv_i vu16]) rfl ?_
  refine sv_if C.1 C.2.1 (cnd := .ge) (off := 4) (tgt := 26) (by decide +kernel) (by decide) ⟨by omega, by omega⟩ (fun (h17 : 0 ≤ vu16) => ?_) (fun (h17 : ¬ (0 ≤ vu16)) => ?_)
  · refine sv_go C.1 C.2.1 [(.aload_n 0, 1)] (pc' := 27) (by decide +kernel) rfl (lv' := [(0, sv_r a), (1, sv_i y), (2, sv_i d), (3, sv_i f), (4, sv_i (vu5 + d)), (5, sv_i vu16)]) (st' := [sv_r a]) rfl ?_
    refine sv_gf C (index := 40) (ci := 0) (k := 2) (r := (RX0, TX0, 12)) (v := sv_i t2) (by decide +kernel) (by rw [k_a]; rfl) rfl (by decide) fl_X0_40 (congrArg sv_i ht2) ?_
    refine sv_go C.1 C.2.1 [(.sipush 600, 3)] (pc' := 33) (by decide +kernel) rfl (lv' := [(0, sv_r a), (1, sv_i y), (2, sv_i d), (3, sv_i f), (4, sv_i (vu5 + d)), (5, sv_i vu16)]) (st' := [sv_i 600, sv_i t2]) rfl ?_
    have J21 : ∀  (σ20 : Nat → Nat → Int), (sv_ok ty σ20) → (sv_inv sp_1 ty σ20) → (sv_ofx [(5, 2), (5, 10), (5, 11)] [30, 32, 33, 34, 35, 36] ty σ σ20) → (σ20 a 2 = t2) → sv_E p l e { frames := 2, cells := 0, slots := 0, locals := 45 } s m args below meth c 6 g A ty (fun r σ' => (r = []) ∧ sv_inv sp_1 ty σ' ∧ sv_ofx [(5, 2), (5, 10), (5, 11)] [30, 32, 33, 34, 35, 36] ty σ σ' ∧ (t2 ≤ σ' a 2 ∧ σ' a 2 ≤ t2 + 1)) σ20 77 [(0, sv_r a), (4, sv_i (vu5 + d)), (5, sv_i vu16)] [] := by
      intro σ20 okσ20 Iσ20 Fσ20 eσ20_0
      refine sv_go C.1 C.2.1 [(.aload_n 0, 1)] (pc' := 78) (by decide +kernel) rfl (lv' := [(0, sv_r a), (4, sv_i (vu5 + d)), (5, sv_i vu16)]) (st' := [sv_r a]) rfl ?_
      obtain ⟨v22, ev22, kv22⟩ := Iσ20.ref (k := 0) k_a rfl
      refine sv_gf C (index := 9) (ci := 0) (k := 0) (r := (RX0, TX0, 12)) (v := sv_r v22) (by decide +kernel) (by rw [k_a]; rfl) rfl (by decide) fl_X0_9 (congrArg sv_a ev22) ?_
      refine sv_go C.1 C.2.1 [(.iload 5, 2), (.dup2, 1)] (pc' := 84) (by decide +kernel) rfl (lv' := [(0, sv_r a), (4, sv_i (vu5 + d)), (5, sv_i vu16)]) (st' := [sv_i vu16, sv_r v22, sv_i vu16, sv_r v22]) rfl ?_
      refine sv_ia C (n := 10) (by decide +kernel) (by rw [kv22]; rfl) (by decide) (by omega) (by omega) ?_
      obtain ⟨v23, ev23, hv23⟩ := sv_rde okσ20 (a := v22) (k := (vu16 : Int).toNat) (n := 10) (by rw [kv22]; rfl) (by omega)
      rw [ev23]
      refine sv_go C.1 C.2.1 [(.iconst 1, 1), (.iadd, 1)] (pc' := 87) (by decide +kernel) rfl (lv' := [(0, sv_r a), (4, sv_i (vu5 + d)), (5, sv_i vu16)]) (st' := [sv_i (v23 + 1), sv_i vu16, sv_r v22]) rfl ?_
      obtain ⟨w24, hw24, ew24⟩ := sv_wr (v23 + 1)
      refine sv_sameD (st2 := [sv_i w24, sv_i vu16, sv_r v22]) (lv2 := [(0, sv_r a), (4, sv_i (vu5 + d)), (5, sv_i vu16)]) (by simp only [List.map_cons, List.map_nil, sv_den_i, ew24]) rfl ?_
      refine sv_is C (n := 10) (by decide +kernel) (by rw [kv22]; rfl) (by decide) (by omega) (by omega) ⟨by omega, by omega⟩ (hTA _ (by rw [kv22]; decide)) okσ20 (fun hok25 => ?_)
      have hI27 := Iσ20.up (a := v22) (k := (vu16 : Int).toNat) (z := w24) (by rw [kv22]; exact trivial)
      have hF28 := Fσ20.up (a := v22) (k := (vu16 : Int).toNat) (z := w24) (Or.inl (by rw [kv22]; decide))
      generalize eσ26 : sv_up σ20 v22 (vu16 : Int).toNat w24 = σ26 at hok25 hI27 hF28 ⊢
      have t29 : σ26 a 2 = t2 := by rw [← eσ26, sv_up_a (sv_ne k_a kv22 (by decide))]; exact eσ20_0
      have t30 : σ26 a 0 = (v22 : Int) + 1 := by rw [← eσ26, sv_up_a (sv_ne k_a kv22 (by decide))]; exact ev22
      have t32 : σ26 v22 (vu16 : Int).toNat = w24 := by rw [← eσ26]; exact sv_up_s _ _ _ _
      refine sv_go C.1 C.2.1 [(.aload_n 0, 1)] (pc' := 89) (by decide +kernel) rfl (lv' := [(0, sv_r a), (4, sv_i (vu5 + d)), (5, sv_i vu16)]) (st' := [sv_r a]) rfl ?_
      obtain ⟨v33, ev33, kv33⟩ := hI27.ref (k := 4) k_a rfl
      refine sv_gf C (index := 18) (ci := 0) (k := 4) (r := (RX0, TX0, 12)) (v := sv_r v33) (by decide +kernel) (by rw [k_a]; rfl) rfl (by decide) fl_X0_18 (congrArg sv_a ev33) ?_
      refine sv_go C.1 C.2.1 [(.iload 5, 2), (.aload_n 0, 1)] (pc' := 95) (by decide +kernel) rfl (lv' := [(0, sv_r a), (4, sv_i (vu5 + d)), (5, sv_i vu16)]) (st' := [sv_r a, sv_i vu16, sv_r v33]) rfl ?_
      refine sv_gf C (index := 40) (ci := 0) (k := 2) (r := (RX0, TX0, 12)) (v := sv_i t2) (by decide +kernel) (by rw [k_a]; rfl) rfl (by decide) fl_X0_40 (congrArg sv_i t29) ?_
      refine sv_is C (n := 10) (by decide +kernel) (by rw [kv33]; rfl) (by decide) (by omega) (by omega) ⟨by omega, by omega⟩ (hTA _ (by rw [kv33]; decide)) hok25 (fun hok34 => ?_)
      have hI36 := hI27.up (a := v33) (k := (vu16 : Int).toNat) (z := t2) (by rw [kv33]; exact trivial)
      have hF37 := hF28.up (a := v33) (k := (vu16 : Int).toNat) (z := t2) (Or.inl (by rw [kv33]; decide))
      generalize eσ35 : sv_up σ26 v33 (vu16 : Int).toNat t2 = σ35 at hok34 hI36 hF37 ⊢
      have t38 : σ35 a 2 = t2 := by rw [← eσ35, sv_up_a (sv_ne k_a kv33 (by decide))]; exact t29
      have t39 : σ35 a 0 = (v22 : Int) + 1 := by rw [← eσ35, sv_up_a (sv_ne k_a kv33 (by decide))]; exact t30
      have t40 : σ35 v22 (vu16 : Int).toNat = w24 := by rw [← eσ35, sv_up_a (sv_ne kv22 kv33 (by decide))]; exact t32
      have t41 : σ35 a 4 = (v33 : Int) + 1 := by rw [← eσ35, sv_up_a (sv_ne k_a kv33 (by decide))]; exact ev33
      have t42 : σ35 v33 (vu16 : Int).toNat = t2 := by rw [← eσ35]; exact sv_up_s _ _ _ _
      refine sv_go C.1 C.2.1 [(.aload_n 0, 1), (.iload 5, 2)] (pc' := 102) (by decide +kernel) rfl (lv' := [(0, sv_r a), (4, sv_i (vu5 + d)), (5, sv_i vu16)]) (st' := [sv_i vu16, sv_r a]) rfl ?_
      refine sv_pf C (index := 43) (ci := 0) (k := 10) (r := (RX0, TX0, 12)) (z := vu16) (by decide +kernel) (by rw [k_a]; rfl) rfl (by decide) rfl fl_X0_43 rfl (Or.inl rfl) ⟨by omega, by omega⟩ (hTA _ (by rw [k_a]; decide)) hok34 (fun hok43 => ?_)
      have hI45 := hI36.up (a := a) (k := 10) (z := vu16) (by rw [k_a]; exact ⟨by omega, by omega⟩)
      have hF46 := hF37.up (a := a) (k := 10) (z := vu16) (Or.inr (by rw [k_a]; decide))
      generalize eσ44 : sv_up σ35 a 10 vu16 = σ44 at hok43 hI45 hF46 ⊢
      have t47 : σ44 a 2 = t2 := by rw [← eσ44, sv_up_k (by decide)]; exact t38
      have t48 : σ44 a 0 = (v22 : Int) + 1 := by rw [← eσ44, sv_up_k (by decide)]; exact t39
      have t49 : σ44 v22 (vu16 : Int).toNat = w24 := by rw [← eσ44, sv_up_a (sv_ne kv22 k_a (by decide))]; exact t40
      have t50 : σ44 a 4 = (v33 : Int) + 1 := by rw [← eσ44, sv_up_k (by decide)]; exact t41
      have t51 : σ44 v33 (vu16 : Int).toNat = t2 := by rw [← eσ44, sv_up_a (sv_ne kv33 k_a (by decide))]; exact t42
      have t52 : σ44 a 10 = vu16 := by rw [← eσ44]; exact sv_up_s _ _ _ _
      refine sv_go C.1 C.2.1 [(.aload_n 0, 1), (.iload 4, 2)] (pc' := 108) (by decide +kernel) rfl (lv' := [(0, sv_r a), (4, sv_i (vu5 + d)), (5, sv_i vu16)]) (st' := [sv_i (vu5 + d), sv_r a]) rfl ?_
      obtain ⟨w53, hw53, ew53⟩ := sv_wr (vu5 + d)
      refine sv_sameD (st2 := [sv_i w53, sv_r a]) (lv2 := [(0, sv_r a), (4, sv_i (vu5 + d)), (5, sv_i vu16)]) (by simp only [List.map_cons, List.map_nil, sv_den_i, ew53]) rfl ?_
      refine sv_pf C (index := 64) (ci := 0) (k := 11) (r := (RX0, TX0, 12)) (z := w53) (by decide +kernel) (by rw [k_a]; rfl) rfl (by decide) rfl fl_X0_64 rfl (Or.inl rfl) ⟨by omega, by omega⟩ (hTA _ (by rw [k_a]; decide)) hok43 (fun hok54 => ?_)
      have hI56 := hI45.up (a := a) (k := 11) (z := w53) (by rw [k_a]; exact trivial)
      have hF57 := hF46.up (a := a) (k := 11) (z := w53) (Or.inr (by rw [k_a]; decide))
      generalize eσ55 : sv_up σ44 a 11 w53 = σ55 at hok54 hI56 hF57 ⊢
      have t58 : σ55 a 2 = t2 := by rw [← eσ55, sv_up_k (by decide)]; exact t47
      have t59 : σ55 a 0 = (v22 : Int) + 1 := by rw [← eσ55, sv_up_k (by decide)]; exact t48
      have t60 : σ55 v22 (vu16 : Int).toNat = w24 := by rw [← eσ55, sv_up_a (sv_ne kv22 k_a (by decide))]; exact t49
      have t61 : σ55 a 4 = (v33 : Int) + 1 := by rw [← eσ55, sv_up_k (by decide)]; exact t50
      have t62 : σ55 v33 (vu16 : Int).toNat = t2 := by rw [← eσ55, sv_up_a (sv_ne kv33 k_a (by decide))]; exact t51
      have t63 : σ55 a 10 = vu16 := by rw [← eσ55, sv_up_k (by decide)]; exact t52
      have t64 : σ55 a 11 = w53 := by rw [← eσ55]; exact sv_up_s _ _ _ _
      refine sv_go C.1 C.2.1 [(.aload_n 0, 1), (.dup, 1)] (pc' := 113) (by decide +kernel) rfl (lv' := [(0, sv_r a), (4, sv_i (vu5 + d)), (5, sv_i vu16)]) (st' := [sv_r a, sv_r a]) rfl ?_
      refine sv_gf C (index := 40) (ci := 0) (k := 2) (r := (RX0, TX0, 12)) (v := sv_i t2) (by decide +kernel) (by rw [k_a]; rfl) rfl (by decide) fl_X0_40 (congrArg sv_i t58) ?_
      refine sv_go C.1 C.2.1 [(.iconst 1, 1), (.iadd, 1)] (pc' := 118) (by decide +kernel) rfl (lv' := [(0, sv_r a), (4, sv_i (vu5 + d)), (5, sv_i vu16)]) (st' := [sv_i (t2 + 1), sv_r a]) rfl ?_
      refine sv_pf C (index := 40) (ci := 0) (k := 2) (r := (RX0, TX0, 12)) (z := t2 + 1) (by decide +kernel) (by rw [k_a]; rfl) rfl (by decide) rfl fl_X0_40 rfl (Or.inl rfl) ⟨by omega, by omega⟩ (hTA _ (by rw [k_a]; decide)) hok54 (fun hok65 => ?_)
      have hI67 := hI56.up (a := a) (k := 2) (z := t2 + 1) (by rw [k_a]; exact ⟨by omega, by omega⟩)
      have hF68 := hF57.up (a := a) (k := 2) (z := t2 + 1) (Or.inr (by rw [k_a]; decide))
      generalize eσ66 : sv_up σ55 a 2 (t2 + 1) = σ66 at hok65 hI67 hF68 ⊢
      have t69 : σ66 a 0 = (v22 : Int) + 1 := by rw [← eσ66, sv_up_k (by decide)]; exact t59
      have t70 : σ66 v22 (vu16 : Int).toNat = w24 := by rw [← eσ66, sv_up_a (sv_ne kv22 k_a (by decide))]; exact t60
      have t71 : σ66 a 4 = (v33 : Int) + 1 := by rw [← eσ66, sv_up_k (by decide)]; exact t61
      have t72 : σ66 v33 (vu16 : Int).toNat = t2 := by rw [← eσ66, sv_up_a (sv_ne kv33 k_a (by decide))]; exact t62
      have t73 : σ66 a 10 = vu16 := by rw [← eσ66, sv_up_k (by decide)]; exact t63
      have t74 : σ66 a 11 = w53 := by rw [← eσ66, sv_up_k (by decide)]; exact t64
      have t75 : σ66 a 2 = t2 + 1 := by rw [← eσ66]; exact sv_up_s _ _ _ _
      exact sv_vret C hr (by decide +kernel) hok65 (⟨rfl, hI67, hF68, by rw [t75]; omega⟩)
    refine sv_icmp C.1 C.2.1 (cnd := .ge) (off := 44) (tgt := 77) (by decide +kernel) (by decide) ⟨by omega, by omega⟩ ⟨by omega, by omega⟩ (fun (h18 : 600 ≤ t2) => ?_) (fun (h18 : ¬ (600 ≤ t2)) => ?_)
    · refine sv_pick [0, 4, 5] (lv2 := [(0, sv_r a), (4, sv_i (vu5 + d)), (5, sv_i vu16)]) rfl ?_
      exact J21 σ hok15 hI hF ht2
    · refine sv_go C.1 C.2.1 [(.aload_n 0, 1)] (pc' := 37) (by decide +kernel) rfl (lv' := [(0, sv_r a), (1, sv_i y), (2, sv_i d), (3, sv_i f), (4, sv_i (vu5 + d)), (5, sv_i vu16)]) (st' := [sv_r a]) rfl ?_
      obtain ⟨v76, ev76, kv76⟩ := hI.ref (k := 5) k_a rfl
      refine sv_gf C (index := 21) (ci := 0) (k := 5) (r := (RX0, TX0, 12)) (v := sv_r v76) (by decide +kernel) (by rw [k_a]; rfl) rfl (by decide) fl_X0_21 (congrArg sv_a ev76) ?_
      refine sv_go C.1 C.2.1 [(.aload_n 0, 1)] (pc' := 41) (by decide +kernel) rfl (lv' := [(0, sv_r a), (1, sv_i y), (2, sv_i d), (3, sv_i f), (4, sv_i (vu5 + d)), (5, sv_i vu16)]) (st' := [sv_r a, sv_r v76]) rfl ?_
      refine sv_gf C (index := 40) (ci := 0) (k := 2) (r := (RX0, TX0, 12)) (v := sv_i t2) (by decide +kernel) (by rw [k_a]; rfl) rfl (by decide) fl_X0_40 (congrArg sv_i ht2) ?_
      refine sv_go C.1 C.2.1 [(.iload_n 1, 1)] (pc' := 45) (by decide +kernel) rfl (lv' := [(0, sv_r a), (1, sv_i y), (2, sv_i d), (3, sv_i f), (4, sv_i (vu5 + d)), (5, sv_i vu16)]) (st' := [sv_i y, sv_i t2, sv_r v76]) rfl ?_
      refine sv_is C (n := 600) (by decide +kernel) (by rw [kv76]; rfl) (by decide) (by omega) (by omega) ⟨by omega, by omega⟩ (hTA _ (by rw [kv76]; decide)) hok15 (fun hok77 => ?_)
      have hI79 := hI.up (a := v76) (k := (t2 : Int).toNat) (z := y) (by rw [kv76]; exact trivial)
      have hF80 := hF.up (a := v76) (k := (t2 : Int).toNat) (z := y) (Or.inl (by rw [kv76]; decide))
      generalize eσ78 : sv_up σ v76 (t2 : Int).toNat y = σ78 at hok77 hI79 hF80 ⊢
      have t81 : σ78 a 2 = t2 := by rw [← eσ78, sv_up_a (sv_ne k_a kv76 (by decide))]; exact ht2
      have t82 : σ78 a 5 = (v76 : Int) + 1 := by rw [← eσ78, sv_up_a (sv_ne k_a kv76 (by decide))]; exact ev76
      have t83 : σ78 v76 (t2 : Int).toNat = y := by rw [← eσ78]; exact sv_up_s _ _ _ _
      refine sv_go C.1 C.2.1 [(.aload_n 0, 1)] (pc' := 47) (by decide +kernel) rfl (lv' := [(0, sv_r a), (1, sv_i y), (2, sv_i d), (3, sv_i f), (4, sv_i (vu5 + d)), (5, sv_i vu16)]) (st' := [sv_r a]) rfl ?_
      obtain ⟨v84, ev84, kv84⟩ := hI79.ref (k := 6) k_a rfl
      refine sv_gf C (index := 24) (ci := 0) (k := 6) (r := (RX0, TX0, 12)) (v := sv_r v84) (by decide +kernel) (by rw [k_a]; rfl) rfl (by decide) fl_X0_24 (congrArg sv_a ev84) ?_
      refine sv_go C.1 C.2.1 [(.aload_n 0, 1)] (pc' := 51) (by decide +kernel) rfl (lv' := [(0, sv_r a), (1, sv_i y), (2, sv_i d), (3, sv_i f), (4, sv_i (vu5 + d)), (5, sv_i vu16)]) (st' := [sv_r a, sv_r v84]) rfl ?_
      refine sv_gf C (index := 40) (ci := 0) (k := 2) (r := (RX0, TX0, 12)) (v := sv_i t2) (by decide +kernel) (by rw [k_a]; rfl) rfl (by decide) fl_X0_40 (congrArg sv_i t81) ?_
      refine sv_go C.1 C.2.1 [(.iload_n 2, 1)] (pc' := 55) (by decide +kernel) rfl (lv' := [(0, sv_r a), (1, sv_i y), (2, sv_i d), (3, sv_i f), (4, sv_i (vu5 + d)), (5, sv_i vu16)]) (st' := [sv_i d, sv_i t2, sv_r v84]) rfl ?_
      refine sv_is C (n := 600) (by decide +kernel) (by rw [kv84]; rfl) (by decide) (by omega) (by omega) ⟨by omega, by omega⟩ (hTA _ (by rw [kv84]; decide)) hok77 (fun hok85 => ?_)
      have hI87 := hI79.up (a := v84) (k := (t2 : Int).toNat) (z := d) (by rw [kv84]; exact trivial)
      have hF88 := hF80.up (a := v84) (k := (t2 : Int).toNat) (z := d) (Or.inl (by rw [kv84]; decide))
      generalize eσ86 : sv_up σ78 v84 (t2 : Int).toNat d = σ86 at hok85 hI87 hF88 ⊢
      have t89 : σ86 a 2 = t2 := by rw [← eσ86, sv_up_a (sv_ne k_a kv84 (by decide))]; exact t81
      have t90 : σ86 a 5 = (v76 : Int) + 1 := by rw [← eσ86, sv_up_a (sv_ne k_a kv84 (by decide))]; exact t82
      have t91 : σ86 v76 (t2 : Int).toNat = y := by rw [← eσ86, sv_up_a (sv_ne kv76 kv84 (by decide))]; exact t83
      have t92 : σ86 a 6 = (v84 : Int) + 1 := by rw [← eσ86, sv_up_a (sv_ne k_a kv84 (by decide))]; exact ev84
      have t93 : σ86 v84 (t2 : Int).toNat = d := by rw [← eσ86]; exact sv_up_s _ _ _ _
      refine sv_go C.1 C.2.1 [(.aload_n 0, 1)] (pc' := 57) (by decide +kernel) rfl (lv' := [(0, sv_r a), (1, sv_i y), (2, sv_i d), (3, sv_i f), (4, sv_i (vu5 + d)), (5, sv_i vu16)]) (st' := [sv_r a]) rfl ?_
      obtain ⟨v94, ev94, kv94⟩ := hI87.ref (k := 7) k_a rfl
      refine sv_gf C (index := 27) (ci := 0) (k := 7) (r := (RX0, TX0, 12)) (v := sv_r v94) (by decide +kernel) (by rw [k_a]; rfl) rfl (by decide) fl_X0_27 (congrArg sv_a ev94) ?_
      refine sv_go C.1 C.2.1 [(.aload_n 0, 1)] (pc' := 61) (by decide +kernel) rfl (lv' := [(0, sv_r a), (1, sv_i y), (2, sv_i d), (3, sv_i f), (4, sv_i (vu5 + d)), (5, sv_i vu16)]) (st' := [sv_r a, sv_r v94]) rfl ?_
      refine sv_gf C (index := 40) (ci := 0) (k := 2) (r := (RX0, TX0, 12)) (v := sv_i t2) (by decide +kernel) (by rw [k_a]; rfl) rfl (by decide) fl_X0_40 (congrArg sv_i t89) ?_
      refine sv_go C.1 C.2.1 [(.iload_n 3, 1)] (pc' := 65) (by decide +kernel) rfl (lv' := [(0, sv_r a), (1, sv_i y), (2, sv_i d), (3, sv_i f), (4, sv_i (vu5 + d)), (5, sv_i vu16)]) (st' := [sv_i f, sv_i t2, sv_r v94]) rfl ?_
      refine sv_is C (n := 600) (by decide +kernel) (by rw [kv94]; rfl) (by decide) (by omega) (by omega) ⟨by omega, by omega⟩ (hTA _ (by rw [kv94]; decide)) hok85 (fun hok95 => ?_)
      have hI97 := hI87.up (a := v94) (k := (t2 : Int).toNat) (z := f) (by rw [kv94]; exact trivial)
      have hF98 := hF88.up (a := v94) (k := (t2 : Int).toNat) (z := f) (Or.inl (by rw [kv94]; decide))
      generalize eσ96 : sv_up σ86 v94 (t2 : Int).toNat f = σ96 at hok95 hI97 hF98 ⊢
      have t99 : σ96 a 2 = t2 := by rw [← eσ96, sv_up_a (sv_ne k_a kv94 (by decide))]; exact t89
      have t100 : σ96 a 5 = (v76 : Int) + 1 := by rw [← eσ96, sv_up_a (sv_ne k_a kv94 (by decide))]; exact t90
      have t101 : σ96 v76 (t2 : Int).toNat = y := by rw [← eσ96, sv_up_a (sv_ne kv76 kv94 (by decide))]; exact t91
      have t102 : σ96 a 6 = (v84 : Int) + 1 := by rw [← eσ96, sv_up_a (sv_ne k_a kv94 (by decide))]; exact t92
      have t103 : σ96 v84 (t2 : Int).toNat = d := by rw [← eσ96, sv_up_a (sv_ne kv84 kv94 (by decide))]; exact t93
      have t104 : σ96 a 7 = (v94 : Int) + 1 := by rw [← eσ96, sv_up_a (sv_ne k_a kv94 (by decide))]; exact ev94
      have t105 : σ96 v94 (t2 : Int).toNat = f := by rw [← eσ96]; exact sv_up_s _ _ _ _
      refine sv_go C.1 C.2.1 [(.aload_n 0, 1)] (pc' := 67) (by decide +kernel) rfl (lv' := [(0, sv_r a), (1, sv_i y), (2, sv_i d), (3, sv_i f), (4, sv_i (vu5 + d)), (5, sv_i vu16)]) (st' := [sv_r a]) rfl ?_
      obtain ⟨v106, ev106, kv106⟩ := hI97.ref (k := 8) k_a rfl
      refine sv_gf C (index := 30) (ci := 0) (k := 8) (r := (RX0, TX0, 12)) (v := sv_r v106) (by decide +kernel) (by rw [k_a]; rfl) rfl (by decide) fl_X0_30 (congrArg sv_a ev106) ?_
      refine sv_go C.1 C.2.1 [(.aload_n 0, 1)] (pc' := 71) (by decide +kernel) rfl (lv' := [(0, sv_r a), (1, sv_i y), (2, sv_i d), (3, sv_i f), (4, sv_i (vu5 + d)), (5, sv_i vu16)]) (st' := [sv_r a, sv_r v106]) rfl ?_
      refine sv_gf C (index := 40) (ci := 0) (k := 2) (r := (RX0, TX0, 12)) (v := sv_i t2) (by decide +kernel) (by rw [k_a]; rfl) rfl (by decide) fl_X0_40 (congrArg sv_i t99) ?_
      refine sv_go C.1 C.2.1 [(.iload 5, 2)] (pc' := 76) (by decide +kernel) rfl (lv' := [(0, sv_r a), (1, sv_i y), (2, sv_i d), (3, sv_i f), (4, sv_i (vu5 + d)), (5, sv_i vu16)]) (st' := [sv_i vu16, sv_i t2, sv_r v106]) rfl ?_
      refine sv_is C (n := 600) (by decide +kernel) (by rw [kv106]; rfl) (by decide) (by omega) (by omega) ⟨by omega, by omega⟩ (hTA _ (by rw [kv106]; decide)) hok95 (fun hok107 => ?_)
      have hI109 := hI97.up (a := v106) (k := (t2 : Int).toNat) (z := vu16) (by rw [kv106]; exact trivial)
      have hF110 := hF98.up (a := v106) (k := (t2 : Int).toNat) (z := vu16) (Or.inl (by rw [kv106]; decide))
      generalize eσ108 : sv_up σ96 v106 (t2 : Int).toNat vu16 = σ108 at hok107 hI109 hF110 ⊢
      have t111 : σ108 a 2 = t2 := by rw [← eσ108, sv_up_a (sv_ne k_a kv106 (by decide))]; exact t99
      have t112 : σ108 a 5 = (v76 : Int) + 1 := by rw [← eσ108, sv_up_a (sv_ne k_a kv106 (by decide))]; exact t100
      have t113 : σ108 v76 (t2 : Int).toNat = y := by rw [← eσ108, sv_up_a (sv_ne kv76 kv106 (by decide))]; exact t101
      have t114 : σ108 a 6 = (v84 : Int) + 1 := by rw [← eσ108, sv_up_a (sv_ne k_a kv106 (by decide))]; exact t102
      have t115 : σ108 v84 (t2 : Int).toNat = d := by rw [← eσ108, sv_up_a (sv_ne kv84 kv106 (by decide))]; exact t103
      have t116 : σ108 a 7 = (v94 : Int) + 1 := by rw [← eσ108, sv_up_a (sv_ne k_a kv106 (by decide))]; exact t104
      have t117 : σ108 v94 (t2 : Int).toNat = f := by rw [← eσ108, sv_up_a (sv_ne kv94 kv106 (by decide))]; exact t105
      have t118 : σ108 a 8 = (v106 : Int) + 1 := by rw [← eσ108, sv_up_a (sv_ne k_a kv106 (by decide))]; exact ev106
      have t119 : σ108 v106 (t2 : Int).toNat = vu16 := by rw [← eσ108]; exact sv_up_s _ _ _ _
      refine sv_pick [0, 4, 5] (lv2 := [(0, sv_r a), (4, sv_i (vu5 + d)), (5, sv_i vu16)]) rfl ?_
      exact J21 σ108 hok107 hI109 hF110 t111
  · exact sv_vret C hr (by decide +kernel) hok15 (⟨rfl, hI, hF, by rw [ht2]; omega⟩)
