theorem ml_X9_59 : Cond.methodLink RX9 59 yX9_isPlace ∈ lw_good := sv_mem 441 (by decide +kernel) rfl
theorem co_X9_isPlace : Cond.code yX9_isPlace cX9_isPlace 1 (some .boolean) ∈ lw_good := sv_mem 443 (by decide +kernel) rfl
theorem st_X9_isPlace : Cond.static yX9_isPlace ∈ lw_good := sv_mem 442 (by decide +kernel) rfl
theorem fl_X9_25 : Cond.fieldLink RX9 25 "SaintsRoad" "places" "[LSaintsRoad$Place;" ∈ lw_good := sv_mem 408 (by decide +kernel) rfl
theorem fl_X9_71 : Cond.fieldLink RX9 71 "SaintsRoad$Place" "calendar" "LSaintsRoad$Calendar;" ∈ lw_good := sv_mem 279 (by decide +kernel) rfl
theorem fl_X9_74 : Cond.fieldLink RX9 74 "SaintsRoad$Calendar" "size" "I" ∈ lw_good := sv_mem 250 (by decide +kernel) rfl
set_option maxHeartbeats 4000000 in
set_option maxRecDepth 100000 in
theorem sf_X9_isFeast (l : Launch) (g : sv_G) (A : Nat → Prop) (ty : Nat → Nat) (σ : Nat → Nat → Int) (hok : sv_ok ty σ) (hTA : ∀ q, ty q ≠ 0 → A q) (hI : sv_inv sp_1 ty σ) (a : Nat) (k_a : ty a = 1) (p1 : Int) (h_p1 : (-2147483648) ≤ p1 ∧ p1 ≤ 2147483647) (f : Int) (h_f : (-2147483648) ≤ f ∧ f ≤ 2147483647) : sv_M l yX9_isFeast cX9_isFeast 3 (some .boolean) { frames := 1, cells := 0, slots := 0, locals := 20 } g A ty σ [sv_r a, sv_i p1, sv_i f] (fun r σ' => σ = σ' ∧ ∃ rv : Int, r = [sv_i rv] ∧ (0 ≤ rv ∧ rv ≤ 1) ∧ (1 ≤ rv → rv ≤ 1 → (0 ≤ p1 ∧ p1 ≤ 3) ∧ 0 ≤ f ∧ f ≤ 59)) := by
  refine sv_enter (by decide) (Nat.le_of_ble_eq_true rfl) ?_
  intro p e s m args below meth c C hr
  have C : sv_C g A RX9 cX9_isFeast 3 p s m args meth c := C
  have hr : meth.sig.returnType = (some .boolean) := hr
  have hF : sv_ofx [] [] ty σ σ := sv_ofx.rf
  refine sv_same (st2 := []) (lv2 := [(0, sv_r a), (1, sv_i p1), (2, sv_i f)]) rfl rfl ?_
  refine sv_go C.1 C.2.1 [(.iload_n 1, 1)] (pc' := 1) (by decide +kernel) rfl (lv' := [(0, sv_r a), (1, sv_i p1), (2, sv_i f)]) (st' := [sv_i p1]) rfl ?_
  refine sv_cs C (index := 59) (k := 1) (rest := []) (by decide +kernel) (sf_X9_isPlace l g A ty σ hok hTA hI (p1) ⟨by omega, by omega⟩) ⟨co_X9_isPlace, in_X9, ⟨by decide, by decide, by decide +kernel⟩, Nat.le_of_ble_eq_true rfl, Nat.le_of_ble_eq_true rfl⟩ ml_X9_59 st_X9_isPlace rfl rfl (Nat.le_of_ble_eq_true rfl) ⟨Nat.zero_le _, Nat.zero_le _⟩ (fun r2 σ3 hpo1 hok4 => ?_)
  obtain ⟨rfl, ⟨vu5, rfl, hvu5, ivu5_0⟩⟩ := hpo1
  refine sv_same (st2 := [sv_i vu5]) (lv2 := [(0, sv_r a), (1, sv_i p1), (2, sv_i f)]) rfl rfl ?_
  refine sv_if C.1 C.2.1 (cnd := .eq) (off := 27) (tgt := 31) (by decide +kernel) (by decide) ⟨by omega, by omega⟩ (fun (h6 : vu5 = 0) => ?_) (fun (h6 : ¬ (vu5 = 0)) => ?_)
  · refine sv_go C.1 C.2.1 [(.iconst 0, 1)] (pc' := 32) (by decide +kernel) rfl (lv' := [(0, sv_r a), (1, sv_i p1), (2, sv_i f)]) (st' := [sv_i 0]) rfl ?_
    exact sv_zret C hr (by omega) (by decide +kernel) hok4 (⟨rfl, ⟨_, rfl, ⟨by omega, by omega⟩, fun _ _ => (by omega)⟩⟩)
  · have hp7 := ivu5_0 (by omega) (by omega)
    refine sv_go C.1 C.2.1 [(.iload_n 2, 1)] (pc' := 8) (by decide +kernel) rfl (lv' := [(0, sv_r a), (1, sv_i p1), (2, sv_i f)]) (st' := [sv_i f]) rfl ?_
    refine sv_if C.1 C.2.1 (cnd := .lt) (off := 23) (tgt := 31) (by decide +kernel) (by decide) ⟨by omega, by omega⟩ (fun (h8 : f < 0) => ?_) (fun (h8 : ¬ (f < 0)) => ?_)
    · refine sv_go C.1 C.2.1 [(.iconst 0, 1)] (pc' := 32) (by decide +kernel) rfl (lv' := [(0, sv_r a), (1, sv_i p1), (2, sv_i f)]) (st' := [sv_i 0]) rfl ?_
      exact sv_zret C hr (by omega) (by decide +kernel) hok4 (⟨rfl, ⟨_, rfl, ⟨by omega, by omega⟩, fun _ _ => (by omega)⟩⟩)
    · refine sv_go C.1 C.2.1 [(.iload_n 2, 1), (.aload_n 0, 1)] (pc' := 13) (by decide +kernel) rfl (lv' := [(0, sv_r a), (1, sv_i p1), (2, sv_i f)]) (st' := [sv_r a, sv_i f]) rfl ?_
      obtain ⟨v9, ev9, kv9⟩ := hI.ref (k := 2) k_a rfl
      refine sv_gf C (index := 25) (ci := 8) (k := 2) (r := (RX9, TX9, 6)) (v := sv_r v9) (by decide +kernel) (by rw [k_a]; rfl) rfl (by decide) fl_X9_25 (congrArg sv_a ev9) ?_
      refine sv_go C.1 C.2.1 [(.iload_n 1, 1)] (pc' := 17) (by decide +kernel) rfl (lv' := [(0, sv_r a), (1, sv_i p1), (2, sv_i f)]) (st' := [sv_i p1, sv_r v9, sv_i f]) rfl ?_
      refine sv_aa C (N := "SaintsRoad$Place") (by decide) (n := 4) (by decide +kernel) (by rw [kv9]; rfl) (by decide) (by omega) (by omega) ?_
      obtain ⟨v10, ev10, kv10⟩ := hI.ref (k := (p1 : Int).toNat) kv9 (by first | rfl | (show (if _ then _ else _) = _; rw [if_pos (by omega)]))
      rw [ev10]
      obtain ⟨v11, ev11, kv11⟩ := hI.ref (k := 2) kv10 rfl
      refine sv_gf C (index := 71) (ci := 3) (k := 2) (r := (RX4, TX4, 11)) (v := sv_r v11) (by decide +kernel) (by rw [kv10]; rfl) rfl (by decide) fl_X9_71 (congrArg sv_a ev11) ?_
      obtain ⟨v12, ev12, hv12⟩ := sv_rdn hI (k := 2) kv11 rfl
      refine sv_gf C (index := 74) (ci := 1) (k := 2) (r := (RX1, TX1, 6)) (v := sv_i v12) (by decide +kernel) (by rw [kv11]; rfl) rfl (by decide) fl_X9_74 (congrArg sv_i ev12) ?_
      refine sv_icmp C.1 C.2.1 (cnd := .ge) (off := 7) (tgt := 31) (by decide +kernel) (by decide) ⟨by omega, by omega⟩ ⟨by omega, by omega⟩ (fun (h13 : v12 ≤ f) => ?_) (fun (h13 : ¬ (v12 ≤ f)) => ?_)
      · refine sv_go C.1 C.2.1 [(.iconst 0, 1)] (pc' := 32) (by decide +kernel) rfl (lv' := [(0, sv_r a), (1, sv_i p1), (2, sv_i f)]) (st' := [sv_i 0]) rfl ?_
        exact sv_zret C hr (by omega) (by decide +kernel) hok4 (⟨rfl, ⟨_, rfl, ⟨by omega, by omega⟩, fun _ _ => (by omega)⟩⟩)
      · refine sv_go C.1 C.2.1 [(.iconst 1, 1)] (pc' := 28) (by decide +kernel) rfl (lv' := [(0, sv_r a), (1, sv_i p1), (2, sv_i f)]) (st' := [sv_i 1]) rfl ?_
        refine sv_goto C.1 C.2.1 (off := 4) (tgt := 32) (by decide +kernel) (by decide) ?_
        exact sv_zret C hr (by omega) (by decide +kernel) hok4 (⟨rfl, ⟨_, rfl, ⟨by omega, by omega⟩, fun _ _ => (by omega)⟩⟩)

theorem ml_X9_184 : Cond.methodLink RX9 184 yX9_isProcession ∈ lw_good := sv_mem 897 (by decide +kernel) rfl
theorem co_X9_isProcession : Cond.code yX9_isProcession cX9_isProcession 1 (some .boolean) ∈ lw_good := sv_mem 899 (by decide +kernel) rfl
theorem st_X9_isProcession : Cond.static yX9_isProcession ∈ lw_good := sv_mem 898 (by decide +kernel) rfl
theorem fl_X9_40 : Cond.fieldLink RX9 40 "SaintsRoad" "town" "LSaintsRoad$Town;" ∈ lw_good := sv_mem 410 (by decide +kernel) rfl
theorem fl_X9_190 : Cond.fieldLink RX9 190 "SaintsRoad$Town" "processions" "[LSaintsRoad$Procession;" ∈ lw_good := sv_mem 390 (by decide +kernel) rfl
theorem fl_X9_213 : Cond.fieldLink RX9 213 "SaintsRoad$Procession" "size" "I" ∈ lw_good := sv_mem 372 (by decide +kernel) rfl
set_option maxHeartbeats 4000000 in
set_option maxRecDepth 100000 in
theorem sf_X9_isLong (l : Launch) (g : sv_G) (A : Nat → Prop) (ty : Nat → Nat) (σ : Nat → Nat → Int) (hok : sv_ok ty σ) (hTA : ∀ q, ty q ≠ 0 → A q) (hI : sv_inv sp_1 ty σ) (a : Nat) (k_a : ty a = 1) (k : Int) (h_k : (-2147483648) ≤ k ∧ k ≤ 2147483647) (n2 : Int) (h_n2 : 1 ≤ n2 ∧ n2 ≤ 2) : sv_M l yX9_isLong cX9_isLong 3 (some .boolean) { frames := 1, cells := 0, slots := 0, locals := 20 } g A ty σ [sv_r a, sv_i k, sv_i n2] (fun r σ' => σ = σ' ∧ ∃ rv : Int, r = [sv_i rv] ∧ (0 ≤ rv ∧ rv ≤ 1) ∧ (1 ≤ rv → rv ≤ 1 → 0 ≤ k ∧ k ≤ 11)) := by
  refine sv_enter (by decide) (Nat.le_of_ble_eq_true rfl) ?_
  intro p e s m args below meth c C hr
  have C : sv_C g A RX9 cX9_isLong 3 p s m args meth c := C
  have hr : meth.sig.returnType = (some .boolean) := hr
  have hF : sv_ofx [] [] ty σ σ := sv_ofx.rf
  refine sv_same (st2 := []) (lv2 := [(0, sv_r a), (1, sv_i k), (2, sv_i n2)]) rfl rfl ?_
  refine sv_go C.1 C.2.1 [(.iload_n 1, 1)] (pc' := 1) (by decide +kernel) rfl (lv' := [(0, sv_r a), (1, sv_i k), (2, sv_i n2)]) (st' := [sv_i k]) rfl ?_
  refine sv_cs C (index := 184) (k := 1) (rest := []) (by decide +kernel) (sf_X9_isProcession l g A ty σ hok hTA hI (k) ⟨by omega, by omega⟩) ⟨co_X9_isProcession, in_X9, ⟨by decide, by decide, by decide +kernel⟩, Nat.le_of_ble_eq_true rfl, Nat.le_of_ble_eq_true rfl⟩ ml_X9_184 st_X9_isProcession rfl rfl (Nat.le_of_ble_eq_true rfl) ⟨Nat.zero_le _, Nat.zero_le _⟩ (fun r2 σ3 hpo1 hok4 => ?_)
  obtain ⟨rfl, ⟨vu5, rfl, hvu5, ivu5_0⟩⟩ := hpo1
  refine sv_same (st2 := [sv_i vu5]) (lv2 := [(0, sv_r a), (1, sv_i k), (2, sv_i n2)]) rfl rfl ?_
  refine sv_if C.1 C.2.1 (cnd := .eq) (off := 23) (tgt := 27) (by decide +kernel) (by decide) ⟨by omega, by omega⟩ (fun (h6 : vu5 = 0) => ?_) (fun (h6 : ¬ (vu5 = 0)) => ?_)
  · refine sv_go C.1 C.2.1 [(.iconst 0, 1)] (pc' := 28) (by decide +kernel) rfl (lv' := [(0, sv_r a), (1, sv_i k), (2, sv_i n2)]) (st' := [sv_i 0]) rfl ?_
    exact sv_zret C hr (by omega) (by decide +kernel) hok4 (⟨rfl, ⟨_, rfl, ⟨by omega, by omega⟩, fun _ _ => (by omega)⟩⟩)
  · have hp7 := ivu5_0 (by omega) (by omega)
    refine sv_go C.1 C.2.1 [(.aload_n 0, 1)] (pc' := 8) (by decide +kernel) rfl (lv' := [(0, sv_r a), (1, sv_i k), (2, sv_i n2)]) (st' := [sv_r a]) rfl ?_
    obtain ⟨v8, ev8, kv8⟩ := hI.ref (k := 4) k_a rfl
    refine sv_gf C (index := 40) (ci := 8) (k := 4) (r := (RX9, TX9, 6)) (v := sv_r v8) (by decide +kernel) (by rw [k_a]; rfl) rfl (by decide) fl_X9_40 (congrArg sv_a ev8) ?_
    obtain ⟨v9, ev9, kv9⟩ := hI.ref (k := 0) kv8 rfl
    refine sv_gf C (index := 190) (ci := 7) (k := 0) (r := (RX8, TX8, 4)) (v := sv_r v9) (by decide +kernel) (by rw [kv8]; rfl) rfl (by decide) fl_X9_190 (congrArg sv_a ev9) ?_
    refine sv_go C.1 C.2.1 [(.iload_n 1, 1)] (pc' := 15) (by decide +kernel) rfl (lv' := [(0, sv_r a), (1, sv_i k), (2, sv_i n2)]) (st' := [sv_i k, sv_r v9]) rfl ?_
    refine sv_aa C (N := "SaintsRoad$Procession") (by decide) (n := 12) (by decide +kernel) (by rw [kv9]; rfl) (by decide) (by omega) (by omega) ?_
    obtain ⟨v10, ev10, kv10⟩ := hI.ref (k := (k : Int).toNat) kv9 (by first | rfl | (show (if _ then _ else _) = _; rw [if_pos (by omega)]))
    rw [ev10]
    obtain ⟨v11, ev11, hv11⟩ := sv_rdn hI (k := 0) kv10 rfl
    refine sv_gf C (index := 213) (ci := 4) (k := 0) (r := (RX5, TX5, 5)) (v := sv_i v11) (by decide +kernel) (by rw [kv10]; rfl) rfl (by decide) fl_X9_213 (congrArg sv_i ev11) ?_
    refine sv_go C.1 C.2.1 [(.iload_n 2, 1)] (pc' := 20) (by decide +kernel) rfl (lv' := [(0, sv_r a), (1, sv_i k), (2, sv_i n2)]) (st' := [sv_i n2, sv_i v11]) rfl ?_
    refine sv_icmp C.1 C.2.1 (cnd := .lt) (off := 7) (tgt := 27) (by decide +kernel) (by decide) ⟨by omega, by omega⟩ ⟨by omega, by omega⟩ (fun (h12 : v11 < n2) => ?_) (fun (h12 : ¬ (v11 < n2)) => ?_)
    · refine sv_go C.1 C.2.1 [(.iconst 0, 1)] (pc' := 28) (by decide +kernel) rfl (lv' := [(0, sv_r a), (1, sv_i k), (2, sv_i n2)]) (st' := [sv_i 0]) rfl ?_
      exact sv_zret C hr (by omega) (by decide +kernel) hok4 (⟨rfl, ⟨_, rfl, ⟨by omega, by omega⟩, fun _ _ => (by omega)⟩⟩)
    · refine sv_go C.1 C.2.1 [(.iconst 1, 1)] (pc' := 24) (by decide +kernel) rfl (lv' := [(0, sv_r a), (1, sv_i k), (2, sv_i n2)]) (st' := [sv_i 1]) rfl ?_
      refine sv_goto C.1 C.2.1 (off := 4) (tgt := 28) (by decide +kernel) (by decide) ?_
      exact sv_zret C hr (by omega) (by decide +kernel) hok4 (⟨rfl, ⟨_, rfl, ⟨by omega, by omega⟩, fun _ _ => (by omega)⟩⟩)

theorem fl_X9_10 : Cond.fieldLink RX9 10 "SaintsRoad" "tape" "LSaintsRoad$Tape;" ∈ lw_good := sv_mem 406 (by decide +kernel) rfl
theorem fl_X9_51 : Cond.fieldLink RX9 51 "SaintsRoad$Tape" "length" "I" ∈ lw_good := sv_mem 109 (by decide +kernel) rfl
theorem ml_X9_55 : Cond.methodLink RX9 55 yX7_addInt ∈ lw_good := sv_mem 429 (by decide +kernel) rfl
theorem co_X7_addInt : Cond.code yX7_addInt cX7_addInt 3 none ∈ lw_good := sv_mem 432 (by decide +kernel) rfl
theorem im_X7_addInt : Cond.instanceMethod yX7_addInt ∈ lw_good := sv_mem 430 (by decide +kernel) rfl
theorem se_X7_addInt : Cond.selects RX7 yX7_addInt yX7_addInt ∈ lw_good := sv_mem 431 (by decide +kernel) rfl
set_option maxHeartbeats 4000000 in
set_option maxRecDepth 100000 in
theorem sf_X9_feed (l : Launch) (g : sv_G) (A : Nat → Prop) (ty : Nat → Nat) (σ : Nat → Nat → Int) (hok : sv_ok ty σ) (hTA : ∀ q, ty q ≠ 0 → A q) (hI : sv_inv sp_1 ty σ) (a : Nat) (k_a : ty a = 1) (ar1 : Int) (h_ar1 : (-2147483648) ≤ ar1 ∧ ar1 ≤ 2147483647) (ar2 : Int) (h_ar2 : (-2147483648) ≤ ar2 ∧ ar2 ≤ 2147483647) (ar3 : Int) (h_ar3 : (-2147483648) ≤ ar3 ∧ ar3 ≤ 2147483647) (ar4 : Int) (h_ar4 : (-2147483648) ≤ ar4 ∧ ar4 ≤ 2147483647) (ar5 : Int) (h_ar5 : (-2147483648) ≤ ar5 ∧ ar5 ≤ 2147483647) : sv_M l yX9_feed cX9_feed 6 (some .int) { frames := 1, cells := 0, slots := 0, locals := 22 } g A ty σ [sv_r a, sv_i ar1, sv_i ar2, sv_i ar3, sv_i ar4, sv_i ar5] (fun r σ' => (∃ rv : Int, r = [sv_i rv] ∧ ((-3) ≤ rv ∧ rv ≤ 4000)) ∧ sv_inv sp_1 ty σ' ∧ sv_ofx [(2, 1)] [20] ty σ σ') := by
  refine sv_enter (by decide) (Nat.le_of_ble_eq_true rfl) ?_
  intro p e s m args below meth c C hr
  have C : sv_C g A RX9 cX9_feed 6 p s m args meth c := C
  have hr : meth.sig.returnType = (some .int) := hr
  have hF : sv_ofx [(2, 1)] [20] ty σ σ := sv_ofx.rf
  refine sv_same (st2 := []) (lv2 := [(0, sv_r a), (1, sv_i ar1), (2, sv_i ar2), (3, sv_i ar3), (4, sv_i ar4), (5, sv_i ar5)]) rfl rfl ?_
  refine sv_go C.1 C.2.1 [(.aload_n 0, 1)] (pc' := 1) (by decide +kernel) rfl (lv' := [(0, sv_r a), (1, sv_i ar1), (2, sv_i ar2), (3, sv_i ar3), (4, sv_i ar4), (5, sv_i ar5)]) (st' := [sv_r a]) rfl ?_
  obtain ⟨v1, ev1, kv1⟩ := hI.ref (k := 0) k_a rfl
  refine sv_gf C (index := 10) (ci := 8) (k := 0) (r := (RX9, TX9, 6)) (v := sv_r v1) (by decide +kernel) (by rw [k_a]; rfl) rfl (by decide) fl_X9_10 (congrArg sv_a ev1) ?_
  obtain ⟨v2, ev2, hv2⟩ := sv_rdn hI (k := 1) kv1 rfl
  refine sv_gf C (index := 51) (ci := 6) (k := 1) (r := (RX7, TX7, 2)) (v := sv_i v2) (by decide +kernel) (by rw [kv1]; rfl) rfl (by decide) fl_X9_51 (congrArg sv_i ev2) ?_
  refine sv_go C.1 C.2.1 [(.bipush 20, 2), (.iadd, 1), (.sipush 4000, 3)] (pc' := 13) (by decide +kernel) rfl (lv' := [(0, sv_r a), (1, sv_i ar1), (2, sv_i ar2), (3, sv_i ar3), (4, sv_i ar4), (5, sv_i ar5)]) (st' := [sv_i 4000, sv_i (v2 + 20)]) rfl ?_
  refine sv_icmp C.1 C.2.1 (cnd := .le) (off := 6) (tgt := 19) (by decide +kernel) (by decide) ⟨by omega, by omega⟩ ⟨by omega, by omega⟩ (fun (h3 : (v2 + 20) ≤ 4000) => ?_) (fun (h3 : ¬ ((v2 + 20) ≤ 4000)) => ?_)
  · refine sv_go C.1 C.2.1 [(.aload_n 0, 1)] (pc' := 20) (by decide +kernel) rfl (lv' := [(0, sv_r a), (1, sv_i ar1), (2, sv_i ar2), (3, sv_i ar3), (4, sv_i ar4), (5, sv_i ar5)]) (st' := [sv_r a]) rfl ?_
    refine sv_gf C (index := 10) (ci := 8) (k := 0) (r := (RX9, TX9, 6)) (v := sv_r v1) (by decide +kernel) (by rw [k_a]; rfl) rfl (by decide) fl_X9_10 (congrArg sv_a ev1) ?_
    refine sv_go C.1 C.2.1 [(.iload_n 1, 1)] (pc' := 24) (by decide +kernel) rfl (lv' := [(0, sv_r a), (1, sv_i ar1), (2, sv_i ar2), (3, sv_i ar3), (4, sv_i ar4), (5, sv_i ar5)]) (st' := [sv_i ar1, sv_r v1]) rfl ?_
    refine sv_cv C (index := 55) (k := 1) (rest := []) (ci := 6) (r := (RX7, TX7, 2)) (by decide +kernel) (sf_X7_addInt l g A ty σ hok hTA hI v1 kv1 (ar1) ⟨by omega, by omega⟩) ⟨co_X7_addInt, in_X7, ⟨by decide, by decide, by decide +kernel⟩, Nat.le_of_ble_eq_true rfl, Nat.le_of_ble_eq_true rfl⟩ ml_X9_55 im_X7_addInt se_X7_addInt (by rw [kv1]; rfl) rfl rfl rfl (Nat.le_of_ble_eq_true rfl) ⟨Nat.zero_le _, Nat.zero_le _⟩ (fun r5 σ6 hpo4 hok7 => ?_)
    obtain ⟨rfl, hIu8, hFu8⟩ := hpo4
    have hGu8 := hF.tr hFu8 (by decide) (by decide)
    have t9 : σ6 a 0 = (v1 : Int) + 1 := (hFu8.at k_a (by decide) (by decide)).trans ev1
    refine sv_same (st2 := []) (lv2 := [(0, sv_r a), (1, sv_i ar1), (2, sv_i ar2), (3, sv_i ar3), (4, sv_i ar4), (5, sv_i ar5)]) rfl rfl ?_
    refine sv_go C.1 C.2.1 [(.aload_n 0, 1)] (pc' := 28) (by decide +kernel) rfl (lv' := [(0, sv_r a), (1, sv_i ar1), (2, sv_i ar2), (3, sv_i ar3), (4, sv_i ar4), (5, sv_i ar5)]) (st' := [sv_r a]) rfl ?_
    refine sv_gf C (index := 10) (ci := 8) (k := 0) (r := (RX9, TX9, 6)) (v := sv_r v1) (by decide +kernel) (by rw [k_a]; rfl) rfl (by decide) fl_X9_10 (congrArg sv_a t9) ?_
    refine sv_go C.1 C.2.1 [(.iload_n 2, 1)] (pc' := 32) (by decide +kernel) rfl (lv' := [(0, sv_r a), (1, sv_i ar1), (2, sv_i ar2), (3, sv_i ar3), (4, sv_i ar4), (5, sv_i ar5)]) (st' := [sv_i ar2, sv_r v1]) rfl ?_
    refine sv_cv C (index := 55) (k := 1) (rest := []) (ci := 6) (r := (RX7, TX7, 2)) (by decide +kernel) (sf_X7_addInt l g A ty σ6 hok7 hTA hIu8 v1 kv1 (ar2) ⟨by omega, by omega⟩) ⟨co_X7_addInt, in_X7, ⟨by decide, by decide, by decide +kernel⟩, Nat.le_of_ble_eq_true rfl, Nat.le_of_ble_eq_true rfl⟩ ml_X9_55 im_X7_addInt se_X7_addInt (by rw [kv1]; rfl) rfl rfl rfl (Nat.le_of_ble_eq_true rfl) ⟨Nat.zero_le _, Nat.zero_le _⟩ (fun r11 σ12 hpo10 hok13 => ?_)
    obtain ⟨rfl, hIu14, hFu14⟩ := hpo10
    have hGu14 := hGu8.tr hFu14 (by decide) (by decide)
    have t15 : σ12 a 0 = (v1 : Int) + 1 := (hFu14.at k_a (by decide) (by decide)).trans t9
    refine sv_same (st2 := []) (lv2 := [(0, sv_r a), (1, sv_i ar1), (2, sv_i ar2), (3, sv_i ar3), (4, sv_i ar4), (5, sv_i ar5)]) rfl rfl ?_
    refine sv_go C.1 C.2.1 [(.aload_n 0, 1)] (pc' := 36) (by decide +kernel) rfl (lv' := [(0, sv_r a), (1, sv_i ar1), (2, sv_i ar2), (3, sv_i ar3), (4, sv_i ar4), (5, sv_i ar5)]) (st' := [sv_r a]) rfl ?_
    refine sv_gf C (index := 10) (ci := 8) (k := 0) (r := (RX9, TX9, 6)) (v := sv_r v1) (by decide +kernel) (by rw [k_a]; rfl) rfl (by decide) fl_X9_10 (congrArg sv_a t15) ?_
    refine sv_go C.1 C.2.1 [(.iload_n 3, 1)] (pc' := 40) (by decide +kernel) rfl (lv' := [(0, sv_r a), (1, sv_i ar1), (2, sv_i ar2), (3, sv_i ar3), (4, sv_i ar4), (5, sv_i ar5)]) (st' := [sv_i ar3, sv_r v1]) rfl ?_
    refine sv_cv C (index := 55) (k := 1) (rest := []) (ci := 6) (r := (RX7, TX7, 2)) (by decide +kernel) (sf_X7_addInt l g A ty σ12 hok13 hTA hIu14 v1 kv1 (ar3) ⟨by omega, by omega⟩) ⟨co_X7_addInt, in_X7, ⟨by decide, by decide, by decide +kernel⟩, Nat.le_of_ble_eq_true rfl, Nat.le_of_ble_eq_true rfl⟩ ml_X9_55 im_X7_addInt se_X7_addInt (by rw [kv1]; rfl) rfl rfl rfl (Nat.le_of_ble_eq_true rfl) ⟨Nat.zero_le _, Nat.zero_le _⟩ (fun r17 σ18 hpo16 hok19 => ?_)
    obtain ⟨rfl, hIu20, hFu20⟩ := hpo16
    have hGu20 := hGu14.tr hFu20 (by decide) (by decide)
    have t21 : σ18 a 0 = (v1 : Int) + 1 := (hFu20.at k_a (by decide) (by decide)).trans t15
    refine sv_same (st2 := []) (lv2 := [(0, sv_r a), (1, sv_i ar1), (2, sv_i ar2), (3, sv_i ar3), (4, sv_i ar4), (5, sv_i ar5)]) rfl rfl ?_
    refine sv_go C.1 C.2.1 [(.aload_n 0, 1)] (pc' := 44) (by decide +kernel) rfl (lv' := [(0, sv_r a), (1, sv_i ar1), (2, sv_i ar2), (3, sv_i ar3), (4, sv_i ar4), (5, sv_i ar5)]) (st' := [sv_r a]) rfl ?_
    refine sv_gf C (index := 10) (ci := 8) (k := 0) (r := (RX9, TX9, 6)) (v := sv_r v1) (by decide +kernel) (by rw [k_a]; rfl) rfl (by decide) fl_X9_10 (congrArg sv_a t21) ?_
    refine sv_go C.1 C.2.1 [(.iload 4, 2)] (pc' := 49) (by decide +kernel) rfl (lv' := [(0, sv_r a), (1, sv_i ar1), (2, sv_i ar2), (3, sv_i ar3), (4, sv_i ar4), (5, sv_i ar5)]) (st' := [sv_i ar4, sv_r v1]) rfl ?_
    refine sv_cv C (index := 55) (k := 1) (rest := []) (ci := 6) (r := (RX7, TX7, 2)) (by decide +kernel) (sf_X7_addInt l g A ty σ18 hok19 hTA hIu20 v1 kv1 (ar4) ⟨by omega, by omega⟩) ⟨co_X7_addInt, in_X7, ⟨by decide, by decide, by decide +kernel⟩, Nat.le_of_ble_eq_true rfl, Nat.le_of_ble_eq_true rfl⟩ ml_X9_55 im_X7_addInt se_X7_addInt (by rw [kv1]; rfl) rfl rfl rfl (Nat.le_of_ble_eq_true rfl) ⟨Nat.zero_le _, Nat.zero_le _⟩ (fun r23 σ24 hpo22 hok25 => ?_)
    obtain ⟨rfl, hIu26, hFu26⟩ := hpo22
    have hGu26 := hGu20.tr hFu26 (by decide) (by decide)
    have t27 : σ24 a 0 = (v1 : Int) + 1 := (hFu26.at k_a (by decide) (by decide)).trans t21
    refine sv_same (st2 := []) (lv2 := [(0, sv_r a), (1, sv_i ar1), (2, sv_i ar2), (3, sv_i ar3), (4, sv_i ar4), (5, sv_i ar5)]) rfl rfl ?_
    refine sv_go C.1 C.2.1 [(.aload_n 0, 1)] (pc' := 53) (by decide +kernel) rfl (lv' := [(0, sv_r a), (1, sv_i ar1), (2, sv_i ar2), (3, sv_i ar3), (4, sv_i ar4), (5, sv_i ar5)]) (st' := [sv_r a]) rfl ?_
    refine sv_gf C (index := 10) (ci := 8) (k := 0) (r := (RX9, TX9, 6)) (v := sv_r v1) (by decide +kernel) (by rw [k_a]; rfl) rfl (by decide) fl_X9_10 (congrArg sv_a t27) ?_
    refine sv_go C.1 C.2.1 [(.iload 5, 2)] (pc' := 58) (by decide +kernel) rfl (lv' := [(0, sv_r a), (1, sv_i ar1), (2, sv_i ar2), (3, sv_i ar3), (4, sv_i ar4), (5, sv_i ar5)]) (st' := [sv_i ar5, sv_r v1]) rfl ?_
    refine sv_cv C (index := 55) (k := 1) (rest := []) (ci := 6) (r := (RX7, TX7, 2)) (by decide +kernel) (sf_X7_addInt l g A ty σ24 hok25 hTA hIu26 v1 kv1 (ar5) ⟨by omega, by omega⟩) ⟨co_X7_addInt, in_X7, ⟨by decide, by decide, by decide +kernel⟩, Nat.le_of_ble_eq_true rfl, Nat.le_of_ble_eq_true rfl⟩ ml_X9_55 im_X7_addInt se_X7_addInt (by rw [kv1]; rfl) rfl rfl rfl (Nat.le_of_ble_eq_true rfl) ⟨Nat.zero_le _, Nat.zero_le _⟩ (fun r29 σ30 hpo28 hok31 => ?_)
    obtain ⟨rfl, hIu32, hFu32⟩ := hpo28
    have hGu32 := hGu26.tr hFu32 (by decide) (by decide)
    have t33 : σ30 a 0 = (v1 : Int) + 1 := (hFu32.at k_a (by decide) (by decide)).trans t27
    refine sv_same (st2 := []) (lv2 := [(0, sv_r a), (1, sv_i ar1), (2, sv_i ar2), (3, sv_i ar3), (4, sv_i ar4), (5, sv_i ar5)]) rfl rfl ?_
    refine sv_go C.1 C.2.1 [(.aload_n 0, 1)] (pc' := 62) (by decide +kernel) rfl (lv' := [(0, sv_r a), (1, sv_i ar1), (2, sv_i ar2), (3, sv_i ar3), (4, sv_i ar4), (5, sv_i ar5)]) (st' := [sv_r a]) rfl ?_
    refine sv_gf C (index := 10) (ci := 8) (k := 0) (r := (RX9, TX9, 6)) (v := sv_r v1) (by decide +kernel) (by rw [k_a]; rfl) rfl (by decide) fl_X9_10 (congrArg sv_a t33) ?_
    obtain ⟨v34, ev34, hv34⟩ := sv_rdn hIu32 (k := 1) kv1 rfl
    refine sv_gf C (index := 51) (ci := 6) (k := 1) (r := (RX7, TX7, 2)) (v := sv_i v34) (by decide +kernel) (by rw [kv1]; rfl) rfl (by decide) fl_X9_51 (congrArg sv_i ev34) ?_
    exact sv_iret C hr (by decide +kernel) hok31 (⟨⟨_, rfl, ⟨by omega, by omega⟩⟩, hIu32, hGu32⟩)
  · refine sv_go C.1 C.2.1 [(.bipush (-3), 2)] (pc' := 18) (by decide +kernel) rfl (lv' := [(0, sv_r a), (1, sv_i ar1), (2, sv_i ar2), (3, sv_i ar3), (4, sv_i ar4), (5, sv_i ar5)]) (st' := [sv_i ((-3))]) rfl ?_
    exact sv_iret C hr (by decide +kernel) hok (⟨⟨_, rfl, ⟨by omega, by omega⟩⟩, hI, hF⟩)

set_option maxHeartbeats 4000000 in
set_option maxRecDepth 100000 in
theorem sf_X9_end (l : Launch) (g : sv_G) (A : Nat → Prop) (ty : Nat → Nat) (σ : Nat → Nat → Int) (hok : sv_ok ty σ) (hTA : ∀ q, ty q ≠ 0 → A q) (hI : sv_inv sp_1 ty σ) (a : Nat) (k_a : ty a = 1) (ar1 : Int) (h_ar1 : (-2147483648) ≤ ar1 ∧ ar1 ≤ 2147483647) : sv_M l yX9_end cX9_end 2 (some .int) { frames := 0, cells := 0, slots := 0, locals := 0 } g A ty σ [sv_r a, sv_i ar1] (fun r σ' => (∃ rv : Int, r = [sv_i rv] ∧ ((-1) ≤ rv ∧ rv ≤ 4000)) ∧ sv_inv sp_1 ty σ' ∧ sv_ofx [(2, 1)] [] ty σ σ') := by
  refine sv_enter (by decide) (Nat.le_of_ble_eq_true rfl) ?_
  intro p e s m args below meth c C hr
  have C : sv_C g A RX9 cX9_end 2 p s m args meth c := C
  have hr : meth.sig.returnType = (some .int) := hr
  have hF : sv_ofx [(2, 1)] [] ty σ σ := sv_ofx.rf
  refine sv_same (st2 := []) (lv2 := [(0, sv_r a), (1, sv_i ar1)]) rfl rfl ?_
  refine sv_go C.1 C.2.1 [(.iload_n 1, 1)] (pc' := 1) (by decide +kernel) rfl (lv' := [(0, sv_r a), (1, sv_i ar1)]) (st' := [sv_i ar1]) rfl ?_
  refine sv_if C.1 C.2.1 (cnd := .lt) (off := 14) (tgt := 15) (by decide +kernel) (by decide) ⟨by omega, by omega⟩ (fun (h1 : ar1 < 0) => ?_) (fun (h1 : ¬ (ar1 < 0)) => ?_)
  · refine sv_go C.1 C.2.1 [(.iconst (-1), 1)] (pc' := 16) (by decide +kernel) rfl (lv' := [(0, sv_r a), (1, sv_i ar1)]) (st' := [sv_i ((-1))]) rfl ?_
    exact sv_iret C hr (by decide +kernel) hok (⟨⟨_, rfl, ⟨by omega, by omega⟩⟩, hI, hF⟩)
  · refine sv_go C.1 C.2.1 [(.iload_n 1, 1), (.aload_n 0, 1)] (pc' := 6) (by decide +kernel) rfl (lv' := [(0, sv_r a), (1, sv_i ar1)]) (st' := [sv_r a, sv_i ar1]) rfl ?_
    obtain ⟨v2, ev2, kv2⟩ := hI.ref (k := 0) k_a rfl
    refine sv_gf C (index := 10) (ci := 8) (k := 0) (r := (RX9, TX9, 6)) (v := sv_r v2) (by decide +kernel) (by rw [k_a]; rfl) rfl (by decide) fl_X9_10 (congrArg sv_a ev2) ?_
    obtain ⟨v3, ev3, hv3⟩ := sv_rdn hI (k := 1) kv2 rfl
    refine sv_gf C (index := 51) (ci := 6) (k := 1) (r := (RX7, TX7, 2)) (v := sv_i v3) (by decide +kernel) (by rw [kv2]; rfl) rfl (by decide) fl_X9_51 (congrArg sv_i ev3) ?_
    refine sv_icmp C.1 C.2.1 (cnd := .le) (off := 5) (tgt := 17) (by decide +kernel) (by decide) ⟨by omega, by omega⟩ ⟨by omega, by omega⟩ (fun (h4 : ar1 ≤ v3) => ?_) (fun (h4 : ¬ (ar1 ≤ v3)) => ?_)
    · refine sv_go C.1 C.2.1 [(.aload_n 0, 1)] (pc' := 18) (by decide +kernel) rfl (lv' := [(0, sv_r a), (1, sv_i ar1)]) (st' := [sv_r a]) rfl ?_
      refine sv_gf C (index := 10) (ci := 8) (k := 0) (r := (RX9, TX9, 6)) (v := sv_r v2) (by decide +kernel) (by rw [k_a]; rfl) rfl (by decide) fl_X9_10 (congrArg sv_a ev2) ?_
      refine sv_go C.1 C.2.1 [(.iload_n 1, 1)] (pc' := 22) (by decide +kernel) rfl (lv' := [(0, sv_r a), (1, sv_i ar1)]) (st' := [sv_i ar1, sv_r v2]) rfl ?_
      refine sv_pf C (index := 51) (ci := 6) (k := 1) (r := (RX7, TX7, 2)) (z := ar1) (by decide +kernel) (by rw [kv2]; rfl) rfl (by decide) rfl fl_X9_51 rfl (Or.inl rfl) ⟨by omega, by omega⟩ (hTA _ (by rw [kv2]; decide)) hok (fun hok5 => ?_)
      have hI7 := hI.up (a := v2) (k := 1) (z := ar1) (by rw [kv2]; exact ⟨by omega, by omega⟩)
      have hF8 := hF.up (a := v2) (k := 1) (z := ar1) (Or.inr (by rw [kv2]; decide))
      generalize eσ6 : sv_up σ v2 1 ar1 = σ6 at hok5 hI7 hF8 ⊢
      have t9 : σ6 a 0 = (v2 : Int) + 1 := by rw [← eσ6, sv_up_a (sv_ne k_a kv2 (by decide))]; exact ev2
      have t10 : σ6 v2 1 = ar1 := by rw [← eσ6]; exact sv_up_s _ _ _ _
      refine sv_go C.1 C.2.1 [(.iload_n 1, 1)] (pc' := 26) (by decide +kernel) rfl (lv' := [(0, sv_r a), (1, sv_i ar1)]) (st' := [sv_i ar1]) rfl ?_
      exact sv_iret C hr (by decide +kernel) hok5 (⟨⟨_, rfl, ⟨by omega, by omega⟩⟩, hI7, hF8⟩)
    · refine sv_go C.1 C.2.1 [(.iconst (-1), 1)] (pc' := 16) (by decide +kernel) rfl (lv' := [(0, sv_r a), (1, sv_i ar1)]) (st' := [sv_i ((-1))]) rfl ?_
      exact sv_iret C hr (by decide +kernel) hok (⟨⟨_, rfl, ⟨by omega, by omega⟩⟩, hI, hF⟩)

theorem fl_X9_19 : Cond.fieldLink RX9 19 "SaintsRoad" "reader" "LSaintsRoad$Reader;" ∈ lw_good := sv_mem 407 (by decide +kernel) rfl
theorem fl_X9_77 : Cond.fieldLink RX9 77 "SaintsRoad$Reader" "faultKind" "I" ∈ lw_good := sv_mem 124 (by decide +kernel) rfl
theorem fl_X9_80 : Cond.fieldLink RX9 80 "SaintsRoad$Reader" "faultPlace" "I" ∈ lw_good := sv_mem 126 (by decide +kernel) rfl
set_option maxHeartbeats 4000000 in
set_option maxRecDepth 100000 in
theorem sf_X9_fault (l : Launch) (g : sv_G) (A : Nat → Prop) (ty : Nat → Nat) (σ : Nat → Nat → Int) (hok : sv_ok ty σ) (hTA : ∀ q, ty q ≠ 0 → A q) (hI : sv_inv sp_1 ty σ) (a : Nat) (k_a : ty a = 1) (ar1 : Int) (h_ar1 : (-2147483648) ≤ ar1 ∧ ar1 ≤ 2147483647) : sv_M l yX9_fault cX9_fault 2 (some .int) { frames := 0, cells := 0, slots := 0, locals := 0 } g A ty σ [sv_r a, sv_i ar1] (fun r σ' => σ = σ' ∧ ∃ rv : Int, r = [sv_i rv] ∧ ((-2147483648) ≤ rv ∧ rv ≤ 2147483647)) := by
  refine sv_enter (by decide) (Nat.le_of_ble_eq_true rfl) ?_
  intro p e s m args below meth c C hr
  have C : sv_C g A RX9 cX9_fault 2 p s m args meth c := C
  have hr : meth.sig.returnType = (some .int) := hr
  have hF : sv_ofx [] [] ty σ σ := sv_ofx.rf
  refine sv_same (st2 := []) (lv2 := [(0, sv_r a), (1, sv_i ar1)]) rfl rfl ?_
  refine sv_go C.1 C.2.1 [(.iload_n 1, 1)] (pc' := 1) (by decide +kernel) rfl (lv' := [(0, sv_r a), (1, sv_i ar1)]) (st' := [sv_i ar1]) rfl ?_
  rcases (show ar1 = 0 ∨ ar1 = 1 ∨ (ar1 ≠ 0 ∧ ar1 ≠ 1) by omega) with h1 | h1 | h1
  · refine sv_lsI C.1 C.2.1 (dflt := 43) (ps := #[(0, 27), (1, 35)]) (len := 27) (off := 27) (tgt := 28) (by decide +kernel) (by decide) 0 h1 (by decide) (by decide) (by decide) ?_
    refine sv_go C.1 C.2.1 [(.aload_n 0, 1)] (pc' := 29) (by decide +kernel) rfl (lv' := [(0, sv_r a), (1, sv_i ar1)]) (st' := [sv_r a]) rfl ?_
    obtain ⟨v2, ev2, kv2⟩ := hI.ref (k := 1) k_a rfl
    refine sv_gf C (index := 19) (ci := 8) (k := 1) (r := (RX9, TX9, 6)) (v := sv_r v2) (by decide +kernel) (by rw [k_a]; rfl) rfl (by decide) fl_X9_19 (congrArg sv_a ev2) ?_
    obtain ⟨v3, ev3, hv3⟩ := sv_rdk hok (a := v2) (k := 0) (ci := 5) (r := (RX6, TX6, 13)) (by rw [kv2]; rfl) rfl (by decide) rfl
    refine sv_gf C (index := 77) (ci := 5) (k := 0) (r := (RX6, TX6, 13)) (v := sv_i v3) (by decide +kernel) (by rw [kv2]; rfl) rfl (by decide) fl_X9_77 (congrArg sv_i ev3) ?_
    exact sv_iret C hr (by decide +kernel) hok (⟨rfl, ⟨_, rfl, ⟨by omega, by omega⟩⟩⟩)
  · refine sv_lsI C.1 C.2.1 (dflt := 43) (ps := #[(0, 27), (1, 35)]) (len := 27) (off := 35) (tgt := 36) (by decide +kernel) (by decide) 1 h1 (by decide) (by decide) (by decide) ?_
    refine sv_go C.1 C.2.1 [(.aload_n 0, 1)] (pc' := 37) (by decide +kernel) rfl (lv' := [(0, sv_r a), (1, sv_i ar1)]) (st' := [sv_r a]) rfl ?_
    obtain ⟨v4, ev4, kv4⟩ := hI.ref (k := 1) k_a rfl
    refine sv_gf C (index := 19) (ci := 8) (k := 1) (r := (RX9, TX9, 6)) (v := sv_r v4) (by decide +kernel) (by rw [k_a]; rfl) rfl (by decide) fl_X9_19 (congrArg sv_a ev4) ?_
    obtain ⟨v5, ev5, hv5⟩ := sv_rdk hok (a := v4) (k := 1) (ci := 5) (r := (RX6, TX6, 13)) (by rw [kv4]; rfl) rfl (by decide) rfl
    refine sv_gf C (index := 80) (ci := 5) (k := 1) (r := (RX6, TX6, 13)) (v := sv_i v5) (by decide +kernel) (by rw [kv4]; rfl) rfl (by decide) fl_X9_80 (congrArg sv_i ev5) ?_
    exact sv_iret C hr (by decide +kernel) hok (⟨rfl, ⟨_, rfl, ⟨by omega, by omega⟩⟩⟩)
  · refine sv_lsO C.1 C.2.1 (dflt := 43) (ps := #[(0, 27), (1, 35)]) (len := 27) (tgt := 44) (by decide +kernel) (by decide) ⟨by omega, by omega⟩ (by simp only [List.forall_mem_cons]; (repeat' constructor) <;> first | omega | (intro q hq; cases hq)) (by decide) ?_
    refine sv_go C.1 C.2.1 [(.iconst (-1), 1)] (pc' := 45) (by decide +kernel) rfl (lv' := [(0, sv_r a), (1, sv_i ar1)]) (st' := [sv_i ((-1))]) rfl ?_
    exact sv_iret C hr (by decide +kernel) hok (⟨rfl, ⟨_, rfl, ⟨by omega, by omega⟩⟩⟩)

theorem ml_X9_83 : Cond.methodLink RX9 83 yX9_isFeast ∈ lw_good := sv_mem 630 (by decide +kernel) rfl
theorem co_X9_isFeast : Cond.code yX9_isFeast cX9_isFeast 3 (some .boolean) ∈ lw_good := sv_mem 633 (by decide +kernel) rfl
theorem im_X9_isFeast : Cond.instanceMethod yX9_isFeast ∈ lw_good := sv_mem 632 (by decide +kernel) rfl
theorem se_X9_isFeast : Cond.selects RX9 yX9_isFeast yX9_isFeast ∈ lw_good := sv_mem 18 (by decide +kernel) rfl
theorem fl_X9_87 : Cond.fieldLink RX9 87 "SaintsRoad$Calendar" "feasts" "[LSaintsRoad$Feast;" ∈ lw_good := sv_mem 245 (by decide +kernel) rfl
theorem ml_X9_91 : Cond.methodLink RX9 91 yX3_tell ∈ lw_good := sv_mem 634 (by decide +kernel) rfl
theorem co_X3_tell : Cond.code yX3_tell cX3_tell 2 (some .int) ∈ lw_good := sv_mem 637 (by decide +kernel) rfl
theorem im_X3_tell : Cond.instanceMethod yX3_tell ∈ lw_good := sv_mem 635 (by decide +kernel) rfl
theorem se_X3_tell : Cond.selects RX3 yX3_tell yX3_tell ∈ lw_good := sv_mem 636 (by decide +kernel) rfl
set_option maxHeartbeats 4000000 in
set_option maxRecDepth 100000 in
theorem sf_X9_feast (l : Launch) (g : sv_G) (A : Nat → Prop) (ty : Nat → Nat) (σ : Nat → Nat → Int) (hok : sv_ok ty σ) (hTA : ∀ q, ty q ≠ 0 → A q) (hI : sv_inv sp_1 ty σ) (a : Nat) (k_a : ty a = 1) (ar1 : Int) (h_ar1 : (-2147483648) ≤ ar1 ∧ ar1 ≤ 2147483647) (ar2 : Int) (h_ar2 : (-2147483648) ≤ ar2 ∧ ar2 ≤ 2147483647) (ar3 : Int) (h_ar3 : (-2147483648) ≤ ar3 ∧ ar3 ≤ 2147483647) : sv_M l yX9_feast cX9_feast 4 (some .int) { frames := 2, cells := 0, slots := 0, locals := 42 } g A ty σ [sv_r a, sv_i ar1, sv_i ar2, sv_i ar3] (fun r σ' => σ = σ' ∧ ∃ rv : Int, r = [sv_i rv] ∧ ((-2147483648) ≤ rv ∧ rv ≤ 2147483647)) := by
  refine sv_enter (by decide) (Nat.le_of_ble_eq_true rfl) ?_
  intro p e s m args below meth c C hr
  have C : sv_C g A RX9 cX9_feast 4 p s m args meth c := C
  have hr : meth.sig.returnType = (some .int) := hr
  have hF : sv_ofx [] [] ty σ σ := sv_ofx.rf
  refine sv_same (st2 := []) (lv2 := [(0, sv_r a), (1, sv_i ar1), (2, sv_i ar2), (3, sv_i ar3)]) rfl rfl ?_
  refine sv_go C.1 C.2.1 [(.aload_n 0, 1), (.iload_n 1, 1), (.iload_n 2, 1)] (pc' := 3) (by decide +kernel) rfl (lv' := [(0, sv_r a), (1, sv_i ar1), (2, sv_i ar2), (3, sv_i ar3)]) (st' := [sv_i ar2, sv_i ar1, sv_r a]) rfl ?_
  refine sv_cv C (index := 83) (k := 2) (rest := []) (ci := 8) (r := (RX9, TX9, 6)) (by decide +kernel) (sf_X9_isFeast l g A ty σ hok hTA hI a k_a (ar1) ⟨by omega, by omega⟩ (ar2) ⟨by omega, by omega⟩) ⟨co_X9_isFeast, in_X9, ⟨by decide, by decide, by decide +kernel⟩, Nat.le_of_ble_eq_true rfl, Nat.le_of_ble_eq_true rfl⟩ ml_X9_83 im_X9_isFeast se_X9_isFeast (by rw [k_a]; rfl) rfl rfl rfl (Nat.le_of_ble_eq_true rfl) ⟨Nat.zero_le _, Nat.zero_le _⟩ (fun r2 σ3 hpo1 hok4 => ?_)
  obtain ⟨rfl, ⟨vu5, rfl, hvu5, ivu5_0⟩⟩ := hpo1
  refine sv_same (st2 := [sv_i vu5]) (lv2 := [(0, sv_r a), (1, sv_i ar1), (2, sv_i ar2), (3, sv_i ar3)]) rfl rfl ?_
  refine sv_if C.1 C.2.1 (cnd := .ne) (off := 5) (tgt := 11) (by decide +kernel) (by decide) ⟨by omega, by omega⟩ (fun (h6 : vu5 ≠ 0) => ?_) (fun (h6 : ¬ (vu5 ≠ 0)) => ?_)
  · have hp7 := ivu5_0 (by omega) (by omega)
    refine sv_go C.1 C.2.1 [(.aload_n 0, 1)] (pc' := 12) (by decide +kernel) rfl (lv' := [(0, sv_r a), (1, sv_i ar1), (2, sv_i ar2), (3, sv_i ar3)]) (st' := [sv_r a]) rfl ?_
    obtain ⟨v8, ev8, kv8⟩ := hI.ref (k := 2) k_a rfl
    refine sv_gf C (index := 25) (ci := 8) (k := 2) (r := (RX9, TX9, 6)) (v := sv_r v8) (by decide +kernel) (by rw [k_a]; rfl) rfl (by decide) fl_X9_25 (congrArg sv_a ev8) ?_
    refine sv_go C.1 C.2.1 [(.iload_n 1, 1)] (pc' := 16) (by decide +kernel) rfl (lv' := [(0, sv_r a), (1, sv_i ar1), (2, sv_i ar2), (3, sv_i ar3)]) (st' := [sv_i ar1, sv_r v8]) rfl ?_
    refine sv_aa C (N := "SaintsRoad$Place") (by decide) (n := 4) (by decide +kernel) (by rw [kv8]; rfl) (by decide) (by omega) (by omega) ?_
    obtain ⟨v9, ev9, kv9⟩ := hI.ref (k := (ar1 : Int).toNat) kv8 (by first | rfl | (show (if _ then _ else _) = _; rw [if_pos (by omega)]))
    rw [ev9]
    obtain ⟨v10, ev10, kv10⟩ := hI.ref (k := 2) kv9 rfl
    refine sv_gf C (index := 71) (ci := 3) (k := 2) (r := (RX4, TX4, 11)) (v := sv_r v10) (by decide +kernel) (by rw [kv9]; rfl) rfl (by decide) fl_X9_71 (congrArg sv_a ev10) ?_
    obtain ⟨v11, ev11, kv11⟩ := hI.ref (k := 0) kv10 rfl
    refine sv_gf C (index := 87) (ci := 1) (k := 0) (r := (RX1, TX1, 6)) (v := sv_r v11) (by decide +kernel) (by rw [kv10]; rfl) rfl (by decide) fl_X9_87 (congrArg sv_a ev11) ?_
    refine sv_go C.1 C.2.1 [(.iload_n 2, 1)] (pc' := 24) (by decide +kernel) rfl (lv' := [(0, sv_r a), (1, sv_i ar1), (2, sv_i ar2), (3, sv_i ar3)]) (st' := [sv_i ar2, sv_r v11]) rfl ?_
    refine sv_aa C (N := "SaintsRoad$Feast") (by decide) (n := 60) (by decide +kernel) (by rw [kv11]; rfl) (by decide) (by omega) (by omega) ?_
    obtain ⟨v12, ev12, kv12⟩ := hI.ref (k := (ar2 : Int).toNat) kv11 (by first | rfl | (show (if _ then _ else _) = _; rw [if_pos (by omega)]))
    rw [ev12]
    refine sv_go C.1 C.2.1 [(.iload_n 3, 1)] (pc' := 26) (by decide +kernel) rfl (lv' := [(0, sv_r a), (1, sv_i ar1), (2, sv_i ar2), (3, sv_i ar3)]) (st' := [sv_i ar3, sv_r v12]) rfl ?_
    refine sv_cv C (index := 91) (k := 1) (rest := []) (ci := 2) (r := (RX3, TX3, 12)) (by decide +kernel) (sf_X3_tell l g A ty σ hok4 hTA hI v12 kv12 (ar3) ⟨by omega, by omega⟩) ⟨co_X3_tell, in_X3, ⟨by decide, by decide, by decide +kernel⟩, Nat.le_of_ble_eq_true rfl, Nat.le_of_ble_eq_true rfl⟩ ml_X9_91 im_X3_tell se_X3_tell (by rw [kv12]; rfl) rfl rfl rfl (Nat.le_of_ble_eq_true rfl) ⟨Nat.zero_le _, Nat.zero_le _⟩ (fun r14 σ15 hpo13 hok16 => ?_)
    obtain ⟨rfl, ⟨vu17, rfl, hvu17⟩⟩ := hpo13
    refine sv_same (st2 := [sv_i vu17]) (lv2 := [(0, sv_r a), (1, sv_i ar1), (2, sv_i ar2), (3, sv_i ar3)]) rfl rfl ?_
    exact sv_iret C hr (by decide +kernel) hok16 (⟨rfl, ⟨_, rfl, ⟨by omega, by omega⟩⟩⟩)
  · refine sv_go C.1 C.2.1 [(.iconst (-1), 1)] (pc' := 10) (by decide +kernel) rfl (lv' := [(0, sv_r a), (1, sv_i ar1), (2, sv_i ar2), (3, sv_i ar3)]) (st' := [sv_i ((-1))]) rfl ?_
    exact sv_iret C hr (by decide +kernel) hok4 (⟨rfl, ⟨_, rfl, ⟨by omega, by omega⟩⟩⟩)

theorem ml_X9_97 : Cond.methodLink RX9 97 yX2_isYear ∈ lw_good := sv_mem 647 (by decide +kernel) rfl
theorem ml_X9_102 : Cond.methodLink RX9 102 yX2_easterOf ∈ lw_good := sv_mem 650 (by decide +kernel) rfl
set_option maxHeartbeats 4000000 in
set_option maxRecDepth 100000 in
theorem sf_X9_easter (l : Launch) (g : sv_G) (A : Nat → Prop) (ty : Nat → Nat) (σ : Nat → Nat → Int) (hok : sv_ok ty σ) (hTA : ∀ q, ty q ≠ 0 → A q) (hI : sv_inv sp_1 ty σ) (a : Nat) (k_a : ty a = 1) (ar1 : Int) (h_ar1 : (-2147483648) ≤ ar1 ∧ ar1 ≤ 2147483647) : sv_M l yX9_easter cX9_easter 2 (some .int) { frames := 3, cells := 0, slots := 0, locals := 63 } g A ty σ [sv_r a, sv_i ar1] (fun r σ' => σ = σ' ∧ ∃ rv : Int, r = [sv_i rv] ∧ ((-2) ≤ rv ∧ rv ≤ 120)) := by
  refine sv_enter (by decide) (Nat.le_of_ble_eq_true rfl) ?_
  intro p e s m args below meth c C hr
  have C : sv_C g A RX9 cX9_easter 2 p s m args meth c := C
  have hr : meth.sig.returnType = (some .int) := hr
  have hF : sv_ofx [] [] ty σ σ := sv_ofx.rf
  refine sv_same (st2 := []) (lv2 := [(0, sv_r a), (1, sv_i ar1)]) rfl rfl ?_
  refine sv_go C.1 C.2.1 [(.iload_n 1, 1)] (pc' := 1) (by decide +kernel) rfl (lv' := [(0, sv_r a), (1, sv_i ar1)]) (st' := [sv_i ar1]) rfl ?_
  refine sv_cs C (index := 97) (k := 1) (rest := []) (by decide +kernel) (ct_X2_isYear l g A ty σ hok (ar1) ⟨by omega, by omega⟩) ⟨co_X2_isYear, in_X2, ⟨by decide, by decide, by decide +kernel⟩, Nat.le_of_ble_eq_true rfl, Nat.le_of_ble_eq_true rfl⟩ ml_X9_97 st_X2_isYear rfl rfl (Nat.le_of_ble_eq_true rfl) ⟨Nat.zero_le _, Nat.zero_le _⟩ (fun r2 σ3 hpo1 hok4 => ?_)
  obtain ⟨rfl, ⟨h5, rfl⟩ | ⟨h5, rfl⟩⟩ := hpo1
  · refine sv_same (st2 := [sv_i 1]) (lv2 := [(0, sv_r a), (1, sv_i ar1)]) rfl rfl ?_
    refine sv_if_f C.1 C.2.1 (cnd := .eq) (off := 10) (tgt := 14) (by decide +kernel) (by decide) ⟨by omega, by omega⟩ (show ¬ (1 = 0) by omega) ?_
    refine sv_go C.1 C.2.1 [(.iload_n 1, 1)] (pc' := 8) (by decide +kernel) rfl (lv' := [(0, sv_r a), (1, sv_i ar1)]) (st' := [sv_i ar1]) rfl ?_
    refine sv_cs C (index := 102) (k := 1) (rest := []) (by decide +kernel) (ct_X2_easterOf l g A ty σ hok4 (ar1) ⟨by omega, by omega⟩) ⟨co_X2_easterOf, in_X2, ⟨by decide, by decide, by decide +kernel⟩, Nat.le_of_ble_eq_true rfl, Nat.le_of_ble_eq_true rfl⟩ ml_X9_102 st_X2_easterOf rfl rfl (Nat.le_of_ble_eq_true rfl) ⟨Nat.zero_le _, Nat.zero_le _⟩ (fun r7 σ8 hpo6 hok9 => ?_)
    obtain ⟨rfl, rfl⟩ := hpo6
    have hn11 := dy_ea_in ar1
    refine sv_same (st2 := [sv_i (dy_ea ar1)]) (lv2 := [(0, sv_r a), (1, sv_i ar1)]) rfl rfl ?_
    refine sv_goto C.1 C.2.1 (off := 5) (tgt := 16) (by decide +kernel) (by decide) ?_
    exact sv_iret C hr (by decide +kernel) hok9 (⟨rfl, ⟨_, rfl, ⟨by omega, by omega⟩⟩⟩)
  · refine sv_same (st2 := [sv_i 0]) (lv2 := [(0, sv_r a), (1, sv_i ar1)]) rfl rfl ?_
    refine sv_if_t C.1 C.2.1 (cnd := .eq) (off := 10) (tgt := 14) (by decide +kernel) (by decide) ⟨by omega, by omega⟩ (show 0 = 0 by omega) ?_
    refine sv_go C.1 C.2.1 [(.bipush (-2), 2)] (pc' := 16) (by decide +kernel) rfl (lv' := [(0, sv_r a), (1, sv_i ar1)]) (st' := [sv_i ((-2))]) rfl ?_
    exact sv_iret C hr (by decide +kernel) hok4 (⟨rfl, ⟨_, rfl, ⟨by omega, by omega⟩⟩⟩)

theorem ml_X9_105 : Cond.methodLink RX9 105 yX2_isDay ∈ lw_good := sv_mem 671 (by decide +kernel) rfl
theorem ml_X9_108 : Cond.methodLink RX9 108 yX2_monthOf ∈ lw_good := sv_mem 678 (by decide +kernel) rfl
theorem co_X2_monthOf : Cond.code yX2_monthOf cX2_monthOf 3 (some .int) ∈ lw_good := sv_mem 680 (by decide +kernel) rfl
theorem st_X2_monthOf : Cond.static yX2_monthOf ∈ lw_good := sv_mem 679 (by decide +kernel) rfl
theorem ml_X9_112 : Cond.methodLink RX9 112 yX2_monthStart ∈ lw_good := sv_mem 681 (by decide +kernel) rfl
theorem ml_X9_115 : Cond.methodLink RX9 115 yX2_weekday ∈ lw_good := sv_mem 682 (by decide +kernel) rfl
set_option maxHeartbeats 4000000 in
set_option maxRecDepth 100000 in
theorem sf_X9_date (l : Launch) (g : sv_G) (A : Nat → Prop) (ty : Nat → Nat) (σ : Nat → Nat → Int) (hok : sv_ok ty σ) (hTA : ∀ q, ty q ≠ 0 → A q) (hI : sv_inv sp_1 ty σ) (a : Nat) (k_a : ty a = 1) (ar1 : Int) (h_ar1 : (-2147483648) ≤ ar1 ∧ ar1 ≤ 2147483647) (ar2 : Int) (h_ar2 : (-2147483648) ≤ ar2 ∧ ar2 ≤ 2147483647) (ar3 : Int) (h_ar3 : (-2147483648) ≤ ar3 ∧ ar3 ≤ 2147483647) : sv_M l yX9_date cX9_date 5 (some .int) { frames := 3, cells := 0, slots := 0, locals := 63 } g A ty σ [sv_r a, sv_i ar1, sv_i ar2, sv_i ar3] (fun r σ' => σ = σ' ∧ ∃ rv : Int, r = [sv_i rv] ∧ ((-334) ≤ rv ∧ rv ≤ 366)) := by
  refine sv_enter (by decide) (Nat.le_of_ble_eq_true rfl) ?_
  intro p e s m args below meth c C hr
  have C : sv_C g A RX9 cX9_date 5 p s m args meth c := C
  have hr : meth.sig.returnType = (some .int) := hr
  have hF : sv_ofx [] [] ty σ σ := sv_ofx.rf
  refine sv_same (st2 := []) (lv2 := [(0, sv_r a), (1, sv_i ar1), (2, sv_i ar2), (3, sv_i ar3)]) rfl rfl ?_
  refine sv_go C.1 C.2.1 [(.iload_n 1, 1), (.iload_n 2, 1)] (pc' := 2) (by decide +kernel) rfl (lv' := [(0, sv_r a), (1, sv_i ar1), (2, sv_i ar2), (3, sv_i ar3)]) (st' := [sv_i ar2, sv_i ar1]) rfl ?_
  refine sv_cs C (index := 105) (k := 2) (rest := []) (by decide +kernel) (ct_X2_isDay l g A ty σ hok (ar1) ⟨by omega, by omega⟩ (ar2) ⟨by omega, by omega⟩) ⟨co_X2_isDay, in_X2, ⟨by decide, by decide, by decide +kernel⟩, Nat.le_of_ble_eq_true rfl, Nat.le_of_ble_eq_true rfl⟩ ml_X9_105 st_X2_isDay rfl rfl (Nat.le_of_ble_eq_true rfl) ⟨Nat.zero_le _, Nat.zero_le _⟩ (fun r2 σ3 hpo1 hok4 => ?_)
  obtain ⟨rfl, ⟨h5, rfl⟩ | ⟨h5, rfl⟩⟩ := hpo1
  · have hn6 := dy_lp_in ar1
    refine sv_same (st2 := [sv_i 1]) (lv2 := [(0, sv_r a), (1, sv_i ar1), (2, sv_i ar2), (3, sv_i ar3)]) rfl rfl ?_
    refine sv_if_t C.1 C.2.1 (cnd := .ne) (off := 5) (tgt := 10) (by decide +kernel) (by decide) ⟨by omega, by omega⟩ (show 1 ≠ 0 by omega) ?_
    refine sv_go C.1 C.2.1 [(.iload_n 1, 1), (.iload_n 2, 1)] (pc' := 12) (by decide +kernel) rfl (lv' := [(0, sv_r a), (1, sv_i ar1), (2, sv_i ar2), (3, sv_i ar3)]) (st' := [sv_i ar2, sv_i ar1]) rfl ?_
    refine sv_cs C (index := 108) (k := 2) (rest := []) (by decide +kernel) (sf_X2_monthOf l g A ty σ hok4 hTA hI (ar1) ⟨by omega, by omega⟩ (ar2) ⟨by omega, by omega⟩) ⟨co_X2_monthOf, in_X2, ⟨by decide, by decide, by decide +kernel⟩, Nat.le_of_ble_eq_true rfl, Nat.le_of_ble_eq_true rfl⟩ ml_X9_108 st_X2_monthOf rfl rfl (Nat.le_of_ble_eq_true rfl) ⟨Nat.zero_le _, Nat.zero_le _⟩ (fun r8 σ9 hpo7 hok10 => ?_)
    obtain ⟨rfl, ⟨vu11, rfl, hvu11⟩⟩ := hpo7
    refine sv_same (st2 := [sv_i vu11]) (lv2 := [(0, sv_r a), (1, sv_i ar1), (2, sv_i ar2), (3, sv_i ar3)]) rfl rfl ?_
    refine sv_go C.1 C.2.1 [(.istore 4, 2), (.iload_n 3, 1)] (pc' := 18) (by decide +kernel) rfl (lv' := [(0, sv_r a), (1, sv_i ar1), (2, sv_i ar2), (3, sv_i ar3), (4, sv_i vu11)]) (st' := [sv_i ar3]) rfl ?_
    rcases (show ar3 = 0 ∨ ar3 = 1 ∨ ar3 = 2 ∨ (ar3 ≠ 0 ∧ ar3 ≠ 1 ∧ ar3 ≠ 2) by omega) with h12 | h12 | h12 | h12
    · refine sv_tsI C.1 C.2.1 (dflt := 46) (lo := 0) (hi := 2) (offs := #[26, 29, 40]) (len := 26) (off := 26) (tgt := 44) (by decide +kernel) 0 h12 (by decide) rfl (by decide) ?_
      refine sv_go C.1 C.2.1 [(.iload 4, 2)] (pc' := 46) (by decide +kernel) rfl (lv' := [(0, sv_r a), (1, sv_i ar1), (2, sv_i ar2), (3, sv_i ar3), (4, sv_i vu11)]) (st' := [sv_i vu11]) rfl ?_
      exact sv_iret C hr (by decide +kernel) hok10 (⟨rfl, ⟨_, rfl, ⟨by omega, by omega⟩⟩⟩)
    · refine sv_tsI C.1 C.2.1 (dflt := 46) (lo := 0) (hi := 2) (offs := #[26, 29, 40]) (len := 26) (off := 29) (tgt := 47) (by decide +kernel) 1 h12 (by decide) rfl (by decide) ?_
      refine sv_go C.1 C.2.1 [(.iload_n 2, 1), (.iload_n 1, 1), (.iload 4, 2)] (pc' := 51) (by decide +kernel) rfl (lv' := [(0, sv_r a), (1, sv_i ar1), (2, sv_i ar2), (3, sv_i ar3), (4, sv_i vu11)]) (st' := [sv_i vu11, sv_i ar1, sv_i ar2]) rfl ?_
      refine sv_cs C (index := 112) (k := 2) (rest := [sv_i ar2]) (by decide +kernel) (sf_X2_monthStart l g A ty σ hok10 hTA hI (ar1) ⟨by omega, by omega⟩ (vu11) ⟨by omega, by omega⟩) ⟨co_X2_monthStart, in_X2, ⟨by decide, by decide, by decide +kernel⟩, Nat.le_of_ble_eq_true rfl, Nat.le_of_ble_eq_true rfl⟩ ml_X9_112 st_X2_monthStart rfl rfl (Nat.le_of_ble_eq_true rfl) ⟨Nat.zero_le _, Nat.zero_le _⟩ (fun r14 σ15 hpo13 hok16 => ?_)
      obtain ⟨rfl, ⟨vu17, rfl, hvu17⟩⟩ := hpo13
      refine sv_same (st2 := [sv_i vu17, sv_i ar2]) (lv2 := [(0, sv_r a), (1, sv_i ar1), (2, sv_i ar2), (3, sv_i ar3), (4, sv_i vu11)]) rfl rfl ?_
      refine sv_go C.1 C.2.1 [(.isub, 1), (.iconst 1, 1), (.iadd, 1)] (pc' := 57) (by decide +kernel) rfl (lv' := [(0, sv_r a), (1, sv_i ar1), (2, sv_i ar2), (3, sv_i ar3), (4, sv_i vu11)]) (st' := [sv_i ((ar2 - vu17) + 1)]) rfl ?_
      exact sv_iret C hr (by decide +kernel) hok16 (⟨rfl, ⟨_, rfl, ⟨by omega, by omega⟩⟩⟩)
    · refine sv_tsI C.1 C.2.1 (dflt := 46) (lo := 0) (hi := 2) (offs := #[26, 29, 40]) (len := 26) (off := 40) (tgt := 58) (by decide +kernel) 2 h12 (by decide) rfl (by decide) ?_
      refine sv_go C.1 C.2.1 [(.iload_n 1, 1), (.iload_n 2, 1)] (pc' := 60) (by decide +kernel) rfl (lv' := [(0, sv_r a), (1, sv_i ar1), (2, sv_i ar2), (3, sv_i ar3), (4, sv_i vu11)]) (st' := [sv_i ar2, sv_i ar1]) rfl ?_
      refine sv_cs C (index := 115) (k := 2) (rest := []) (by decide +kernel) (sf_X2_weekday l g A ty σ hok10 hTA hI (ar1) ⟨by omega, by omega⟩ (ar2) ⟨by omega, by omega⟩) ⟨co_X2_weekday, in_X2, ⟨by decide, by decide, by decide +kernel⟩, Nat.le_of_ble_eq_true rfl, Nat.le_of_ble_eq_true rfl⟩ ml_X9_115 st_X2_weekday rfl rfl (Nat.le_of_ble_eq_true rfl) ⟨Nat.zero_le _, Nat.zero_le _⟩ (fun r19 σ20 hpo18 hok21 => ?_)
      obtain ⟨rfl, ⟨vu22, rfl, hvu22⟩⟩ := hpo18
      refine sv_same (st2 := [sv_i vu22]) (lv2 := [(0, sv_r a), (1, sv_i ar1), (2, sv_i ar2), (3, sv_i ar3), (4, sv_i vu11)]) rfl rfl ?_
      exact sv_iret C hr (by decide +kernel) hok21 (⟨rfl, ⟨_, rfl, ⟨by omega, by omega⟩⟩⟩)
    · refine sv_tsO C.1 C.2.1 (dflt := 46) (lo := 0) (hi := 2) (offs := #[26, 29, 40]) (len := 26) (tgt := 64) (by decide +kernel) ⟨by omega, by omega⟩ (by omega) (by decide) ?_
      refine sv_go C.1 C.2.1 [(.iconst (-1), 1)] (pc' := 65) (by decide +kernel) rfl (lv' := [(0, sv_r a), (1, sv_i ar1), (2, sv_i ar2), (3, sv_i ar3), (4, sv_i vu11)]) (st' := [sv_i ((-1))]) rfl ?_
      exact sv_iret C hr (by decide +kernel) hok10 (⟨rfl, ⟨_, rfl, ⟨by omega, by omega⟩⟩⟩)
  · have hn6 := dy_lp_in ar1
    refine sv_same (st2 := [sv_i 0]) (lv2 := [(0, sv_r a), (1, sv_i ar1), (2, sv_i ar2), (3, sv_i ar3)]) rfl rfl ?_
    refine sv_if_f C.1 C.2.1 (cnd := .ne) (off := 5) (tgt := 10) (by decide +kernel) (by decide) ⟨by omega, by omega⟩ (show ¬ (0 ≠ 0) by omega) ?_
    refine sv_go C.1 C.2.1 [(.iconst (-1), 1)] (pc' := 9) (by decide +kernel) rfl (lv' := [(0, sv_r a), (1, sv_i ar1), (2, sv_i ar2), (3, sv_i ar3)]) (st' := [sv_i ((-1))]) rfl ?_
    exact sv_iret C hr (by decide +kernel) hok4 (⟨rfl, ⟨_, rfl, ⟨by omega, by omega⟩⟩⟩)

theorem ml_X9_118 : Cond.methodLink RX9 118 yX4_settle ∈ lw_good := sv_mem 687 (by decide +kernel) rfl
theorem co_X4_settle : Cond.code yX4_settle cX4_settle 5 none ∈ lw_good := sv_mem 690 (by decide +kernel) rfl
theorem im_X4_settle : Cond.instanceMethod yX4_settle ∈ lw_good := sv_mem 688 (by decide +kernel) rfl
theorem se_X4_settle : Cond.selects RX4 yX4_settle yX4_settle ∈ lw_good := sv_mem 689 (by decide +kernel) rfl
theorem ml_X9_121 : Cond.methodLink RX9 121 yX4_officeOf ∈ lw_good := sv_mem 736 (by decide +kernel) rfl
set_option maxHeartbeats 4000000 in
set_option maxRecDepth 100000 in
theorem sf_X9_office (l : Launch) (g : sv_G) (A : Nat → Prop) (ty : Nat → Nat) (σ : Nat → Nat → Int) (hok : sv_ok ty σ) (hTA : ∀ q, ty q ≠ 0 → A q) (hI : sv_inv sp_1 ty σ) (a : Nat) (k_a : ty a = 1) (ar1 : Int) (h_ar1 : (-2147483648) ≤ ar1 ∧ ar1 ≤ 2147483647) (ar2 : Int) (h_ar2 : (-2147483648) ≤ ar2 ∧ ar2 ≤ 2147483647) (ar3 : Int) (h_ar3 : (-2147483648) ≤ ar3 ∧ ar3 ≤ 2147483647) : sv_M l yX9_office cX9_office 4 (some .int) { frames := 6, cells := 0, slots := 0, locals := 134 } g A ty σ [sv_r a, sv_i ar1, sv_i ar2, sv_i ar3] (fun r σ' => (∃ rv : Int, r = [sv_i rv] ∧ ((-79) ≤ rv ∧ rv ≤ 59)) ∧ sv_inv sp_1 ty σ' ∧ sv_ofx [(4, 7), (4, 8), (4, 9), (4, 10)] [24, 25, 26, 27, 28, 29] ty σ σ') := by
  refine sv_enter (by decide) (Nat.le_of_ble_eq_true rfl) ?_
  intro p e s m args below meth c C hr
  have C : sv_C g A RX9 cX9_office 4 p s m args meth c := C
  have hr : meth.sig.returnType = (some .int) := hr
  have hF : sv_ofx [(4, 7), (4, 8), (4, 9), (4, 10)] [24, 25, 26, 27, 28, 29] ty σ σ := sv_ofx.rf
  refine sv_same (st2 := []) (lv2 := [(0, sv_r a), (1, sv_i ar1), (2, sv_i ar2), (3, sv_i ar3)]) rfl rfl ?_
  refine sv_go C.1 C.2.1 [(.iload_n 1, 1)] (pc' := 1) (by decide +kernel) rfl (lv' := [(0, sv_r a), (1, sv_i ar1), (2, sv_i ar2), (3, sv_i ar3)]) (st' := [sv_i ar1]) rfl ?_
  refine sv_cs C (index := 59) (k := 1) (rest := []) (by decide +kernel) (sf_X9_isPlace l g A ty σ hok hTA hI (ar1) ⟨by omega, by omega⟩) ⟨co_X9_isPlace, in_X9, ⟨by decide, by decide, by decide +kernel⟩, Nat.le_of_ble_eq_true rfl, Nat.le_of_ble_eq_true rfl⟩ ml_X9_59 st_X9_isPlace rfl rfl (Nat.le_of_ble_eq_true rfl) ⟨Nat.zero_le _, Nat.zero_le _⟩ (fun r2 σ3 hpo1 hok4 => ?_)
  obtain ⟨rfl, ⟨vu5, rfl, hvu5, ivu5_0⟩⟩ := hpo1
  refine sv_same (st2 := [sv_i vu5]) (lv2 := [(0, sv_r a), (1, sv_i ar1), (2, sv_i ar2), (3, sv_i ar3)]) rfl rfl ?_
  refine sv_if C.1 C.2.1 (cnd := .eq) (off := 11) (tgt := 15) (by decide +kernel) (by decide) ⟨by omega, by omega⟩ (fun (h6 : vu5 = 0) => ?_) (fun (h6 : ¬ (vu5 = 0)) => ?_)
  · refine sv_go C.1 C.2.1 [(.bipush (-2), 2)] (pc' := 17) (by decide +kernel) rfl (lv' := [(0, sv_r a), (1, sv_i ar1), (2, sv_i ar2), (3, sv_i ar3)]) (st' := [sv_i ((-2))]) rfl ?_
    exact sv_iret C hr (by decide +kernel) hok4 (⟨⟨_, rfl, ⟨by omega, by omega⟩⟩, hI, hF⟩)
  · have hp7 := ivu5_0 (by omega) (by omega)
    refine sv_go C.1 C.2.1 [(.iload_n 2, 1), (.iload_n 3, 1)] (pc' := 9) (by decide +kernel) rfl (lv' := [(0, sv_r a), (1, sv_i ar1), (2, sv_i ar2), (3, sv_i ar3)]) (st' := [sv_i ar3, sv_i ar2]) rfl ?_
    refine sv_cs C (index := 105) (k := 2) (rest := []) (by decide +kernel) (ct_X2_isDay l g A ty σ hok4 (ar2) ⟨by omega, by omega⟩ (ar3) ⟨by omega, by omega⟩) ⟨co_X2_isDay, in_X2, ⟨by decide, by decide, by decide +kernel⟩, Nat.le_of_ble_eq_true rfl, Nat.le_of_ble_eq_true rfl⟩ ml_X9_105 st_X2_isDay rfl rfl (Nat.le_of_ble_eq_true rfl) ⟨Nat.zero_le _, Nat.zero_le _⟩ (fun r9 σ10 hpo8 hok11 => ?_)
    obtain ⟨rfl, ⟨h12, rfl⟩ | ⟨h12, rfl⟩⟩ := hpo8
    · have hn13 := dy_lp_in ar2
      refine sv_same (st2 := [sv_i 1]) (lv2 := [(0, sv_r a), (1, sv_i ar1), (2, sv_i ar2), (3, sv_i ar3)]) rfl rfl ?_
      refine sv_if_t C.1 C.2.1 (cnd := .ne) (off := 6) (tgt := 18) (by decide +kernel) (by decide) ⟨by omega, by omega⟩ (show 1 ≠ 0 by omega) ?_
      refine sv_go C.1 C.2.1 [(.aload_n 0, 1)] (pc' := 19) (by decide +kernel) rfl (lv' := [(0, sv_r a), (1, sv_i ar1), (2, sv_i ar2), (3, sv_i ar3)]) (st' := [sv_r a]) rfl ?_
      obtain ⟨v14, ev14, kv14⟩ := hI.ref (k := 2) k_a rfl
      refine sv_gf C (index := 25) (ci := 8) (k := 2) (r := (RX9, TX9, 6)) (v := sv_r v14) (by decide +kernel) (by rw [k_a]; rfl) rfl (by decide) fl_X9_25 (congrArg sv_a ev14) ?_
      refine sv_go C.1 C.2.1 [(.iload_n 1, 1)] (pc' := 23) (by decide +kernel) rfl (lv' := [(0, sv_r a), (1, sv_i ar1), (2, sv_i ar2), (3, sv_i ar3)]) (st' := [sv_i ar1, sv_r v14]) rfl ?_
      refine sv_aa C (N := "SaintsRoad$Place") (by decide) (n := 4) (by decide +kernel) (by rw [kv14]; rfl) (by decide) (by omega) (by omega) ?_
      obtain ⟨v15, ev15, kv15⟩ := hI.ref (k := (ar1 : Int).toNat) kv14 (by first | rfl | (show (if _ then _ else _) = _; rw [if_pos (by omega)]))
      rw [ev15]
      refine sv_go C.1 C.2.1 [(.iload_n 2, 1)] (pc' := 25) (by decide +kernel) rfl (lv' := [(0, sv_r a), (1, sv_i ar1), (2, sv_i ar2), (3, sv_i ar3)]) (st' := [sv_i ar2, sv_r v15]) rfl ?_
      refine sv_cv C (index := 118) (k := 1) (rest := []) (ci := 3) (r := (RX4, TX4, 11)) (by decide +kernel) (sf_X4_settle l g A ty σ hok11 hTA hI v15 kv15 (ar2) ⟨by omega, by omega⟩) ⟨co_X4_settle, in_X4, ⟨by decide, by decide, by decide +kernel⟩, Nat.le_of_ble_eq_true rfl, Nat.le_of_ble_eq_true rfl⟩ ml_X9_118 im_X4_settle se_X4_settle (by rw [kv15]; rfl) rfl rfl rfl (Nat.le_of_ble_eq_true rfl) ⟨Nat.zero_le _, Nat.zero_le _⟩ (fun r17 σ18 hpo16 hok19 => ?_)
      obtain ⟨rfl, hIu20, hFu20⟩ := hpo16
      have hGu20 := hF.tr hFu20 (by decide) (by decide)
      have t21 : σ18 a 2 = (v14 : Int) + 1 := (hFu20.at k_a (by decide) (by decide)).trans ev14
      have t22 : σ18 v14 (ar1 : Int).toNat = (v15 : Int) + 1 := (hFu20.atA kv14 (by decide) (by decide)).trans ev15
      refine sv_same (st2 := []) (lv2 := [(0, sv_r a), (1, sv_i ar1), (2, sv_i ar2), (3, sv_i ar3)]) rfl rfl ?_
      refine sv_go C.1 C.2.1 [(.aload_n 0, 1)] (pc' := 29) (by decide +kernel) rfl (lv' := [(0, sv_r a), (1, sv_i ar1), (2, sv_i ar2), (3, sv_i ar3)]) (st' := [sv_r a]) rfl ?_
      refine sv_gf C (index := 25) (ci := 8) (k := 2) (r := (RX9, TX9, 6)) (v := sv_r v14) (by decide +kernel) (by rw [k_a]; rfl) rfl (by decide) fl_X9_25 (congrArg sv_a t21) ?_
      refine sv_go C.1 C.2.1 [(.iload_n 1, 1)] (pc' := 33) (by decide +kernel) rfl (lv' := [(0, sv_r a), (1, sv_i ar1), (2, sv_i ar2), (3, sv_i ar3)]) (st' := [sv_i ar1, sv_r v14]) rfl ?_
      refine sv_aa C (N := "SaintsRoad$Place") (by decide) (n := 4) (by decide +kernel) (by rw [kv14]; rfl) (by decide) (by omega) (by omega) ?_
      rw [t22]
      refine sv_go C.1 C.2.1 [(.iload_n 3, 1)] (pc' := 35) (by decide +kernel) rfl (lv' := [(0, sv_r a), (1, sv_i ar1), (2, sv_i ar2), (3, sv_i ar3)]) (st' := [sv_i ar3, sv_r v15]) rfl ?_
      refine sv_cv C (index := 121) (k := 1) (rest := []) (ci := 3) (r := (RX4, TX4, 11)) (by decide +kernel) (sf_X4_officeOf l g A ty σ18 hok19 hTA hIu20 v15 kv15 (ar3) ⟨by omega, by omega⟩) ⟨co_X4_officeOf, in_X4, ⟨by decide, by decide, by decide +kernel⟩, Nat.le_of_ble_eq_true rfl, Nat.le_of_ble_eq_true rfl⟩ ml_X9_121 im_X4_officeOf se_X4_officeOf (by rw [kv15]; rfl) rfl rfl rfl (Nat.le_of_ble_eq_true rfl) ⟨Nat.zero_le _, Nat.zero_le _⟩ (fun r24 σ25 hpo23 hok26 => ?_)
      obtain ⟨rfl, ⟨vu27, rfl, hvu27⟩⟩ := hpo23
      refine sv_same (st2 := [sv_i vu27]) (lv2 := [(0, sv_r a), (1, sv_i ar1), (2, sv_i ar2), (3, sv_i ar3)]) rfl rfl ?_
      exact sv_iret C hr (by decide +kernel) hok26 (⟨⟨_, rfl, ⟨by omega, by omega⟩⟩, hIu20, hGu20⟩)
    · have hn13 := dy_lp_in ar2
      refine sv_same (st2 := [sv_i 0]) (lv2 := [(0, sv_r a), (1, sv_i ar1), (2, sv_i ar2), (3, sv_i ar3)]) rfl rfl ?_
      refine sv_if_f C.1 C.2.1 (cnd := .ne) (off := 6) (tgt := 18) (by decide +kernel) (by decide) ⟨by omega, by omega⟩ (show ¬ (0 ≠ 0) by omega) ?_
      refine sv_go C.1 C.2.1 [(.bipush (-2), 2)] (pc' := 17) (by decide +kernel) rfl (lv' := [(0, sv_r a), (1, sv_i ar1), (2, sv_i ar2), (3, sv_i ar3)]) (st' := [sv_i ((-2))]) rfl ?_
      exact sv_iret C hr (by decide +kernel) hok11 (⟨⟨_, rfl, ⟨by omega, by omega⟩⟩, hI, hF⟩)

theorem fl_X9_124 : Cond.fieldLink RX9 124 "SaintsRoad$Place" "heldDay" "[I" ∈ lw_good := sv_mem 275 (by decide +kernel) rfl
set_option maxHeartbeats 4000000 in
set_option maxRecDepth 100000 in
theorem sf_X9_held (l : Launch) (g : sv_G) (A : Nat → Prop) (ty : Nat → Nat) (σ : Nat → Nat → Int) (hok : sv_ok ty σ) (hTA : ∀ q, ty q ≠ 0 → A q) (hI : sv_inv sp_1 ty σ) (a : Nat) (k_a : ty a = 1) (ar1 : Int) (h_ar1 : (-2147483648) ≤ ar1 ∧ ar1 ≤ 2147483647) (ar2 : Int) (h_ar2 : (-2147483648) ≤ ar2 ∧ ar2 ≤ 2147483647) (ar3 : Int) (h_ar3 : (-2147483648) ≤ ar3 ∧ ar3 ≤ 2147483647) : sv_M l yX9_held cX9_held 4 (some .int) { frames := 6, cells := 0, slots := 0, locals := 134 } g A ty σ [sv_r a, sv_i ar1, sv_i ar2, sv_i ar3] (fun r σ' => (∃ rv : Int, r = [sv_i rv] ∧ ((-2147483648) ≤ rv ∧ rv ≤ 2147483647)) ∧ sv_inv sp_1 ty σ' ∧ sv_ofx [(4, 7), (4, 8), (4, 9), (4, 10)] [24, 25, 26, 27, 28, 29] ty σ σ') := by
  refine sv_enter (by decide) (Nat.le_of_ble_eq_true rfl) ?_
  intro p e s m args below meth c C hr
  have C : sv_C g A RX9 cX9_held 4 p s m args meth c := C
  have hr : meth.sig.returnType = (some .int) := hr
  have hF : sv_ofx [(4, 7), (4, 8), (4, 9), (4, 10)] [24, 25, 26, 27, 28, 29] ty σ σ := sv_ofx.rf
  refine sv_same (st2 := []) (lv2 := [(0, sv_r a), (1, sv_i ar1), (2, sv_i ar2), (3, sv_i ar3)]) rfl rfl ?_
  refine sv_go C.1 C.2.1 [(.aload_n 0, 1), (.iload_n 1, 1), (.iload_n 3, 1)] (pc' := 3) (by decide +kernel) rfl (lv' := [(0, sv_r a), (1, sv_i ar1), (2, sv_i ar2), (3, sv_i ar3)]) (st' := [sv_i ar3, sv_i ar1, sv_r a]) rfl ?_
  refine sv_cv C (index := 83) (k := 2) (rest := []) (ci := 8) (r := (RX9, TX9, 6)) (by decide +kernel) (sf_X9_isFeast l g A ty σ hok hTA hI a k_a (ar1) ⟨by omega, by omega⟩ (ar3) ⟨by omega, by omega⟩) ⟨co_X9_isFeast, in_X9, ⟨by decide, by decide, by decide +kernel⟩, Nat.le_of_ble_eq_true rfl, Nat.le_of_ble_eq_true rfl⟩ ml_X9_83 im_X9_isFeast se_X9_isFeast (by rw [k_a]; rfl) rfl rfl rfl (Nat.le_of_ble_eq_true rfl) ⟨Nat.zero_le _, Nat.zero_le _⟩ (fun r2 σ3 hpo1 hok4 => ?_)
  obtain ⟨rfl, ⟨vu5, rfl, hvu5, ivu5_0⟩⟩ := hpo1
  refine sv_same (st2 := [sv_i vu5]) (lv2 := [(0, sv_r a), (1, sv_i ar1), (2, sv_i ar2), (3, sv_i ar3)]) rfl rfl ?_
  refine sv_if C.1 C.2.1 (cnd := .eq) (off := 10) (tgt := 16) (by decide +kernel) (by decide) ⟨by omega, by omega⟩ (fun (h6 : vu5 = 0) => ?_) (fun (h6 : ¬ (vu5 = 0)) => ?_)
  · refine sv_go C.1 C.2.1 [(.bipush (-2), 2)] (pc' := 18) (by decide +kernel) rfl (lv' := [(0, sv_r a), (1, sv_i ar1), (2, sv_i ar2), (3, sv_i ar3)]) (st' := [sv_i ((-2))]) rfl ?_
    exact sv_iret C hr (by decide +kernel) hok4 (⟨⟨_, rfl, ⟨by omega, by omega⟩⟩, hI, hF⟩)
  · have hp7 := ivu5_0 (by omega) (by omega)
    refine sv_go C.1 C.2.1 [(.iload_n 2, 1)] (pc' := 10) (by decide +kernel) rfl (lv' := [(0, sv_r a), (1, sv_i ar1), (2, sv_i ar2), (3, sv_i ar3)]) (st' := [sv_i ar2]) rfl ?_
    refine sv_cs C (index := 97) (k := 1) (rest := []) (by decide +kernel) (ct_X2_isYear l g A ty σ hok4 (ar2) ⟨by omega, by omega⟩) ⟨co_X2_isYear, in_X2, ⟨by decide, by decide, by decide +kernel⟩, Nat.le_of_ble_eq_true rfl, Nat.le_of_ble_eq_true rfl⟩ ml_X9_97 st_X2_isYear rfl rfl (Nat.le_of_ble_eq_true rfl) ⟨Nat.zero_le _, Nat.zero_le _⟩ (fun r9 σ10 hpo8 hok11 => ?_)
    obtain ⟨rfl, ⟨h12, rfl⟩ | ⟨h12, rfl⟩⟩ := hpo8
    · refine sv_same (st2 := [sv_i 1]) (lv2 := [(0, sv_r a), (1, sv_i ar1), (2, sv_i ar2), (3, sv_i ar3)]) rfl rfl ?_
      refine sv_if_t C.1 C.2.1 (cnd := .ne) (off := 6) (tgt := 19) (by decide +kernel) (by decide) ⟨by omega, by omega⟩ (show 1 ≠ 0 by omega) ?_
      refine sv_go C.1 C.2.1 [(.aload_n 0, 1)] (pc' := 20) (by decide +kernel) rfl (lv' := [(0, sv_r a), (1, sv_i ar1), (2, sv_i ar2), (3, sv_i ar3)]) (st' := [sv_r a]) rfl ?_
      obtain ⟨v13, ev13, kv13⟩ := hI.ref (k := 2) k_a rfl
      refine sv_gf C (index := 25) (ci := 8) (k := 2) (r := (RX9, TX9, 6)) (v := sv_r v13) (by decide +kernel) (by rw [k_a]; rfl) rfl (by decide) fl_X9_25 (congrArg sv_a ev13) ?_
      refine sv_go C.1 C.2.1 [(.iload_n 1, 1)] (pc' := 24) (by decide +kernel) rfl (lv' := [(0, sv_r a), (1, sv_i ar1), (2, sv_i ar2), (3, sv_i ar3)]) (st' := [sv_i ar1, sv_r v13]) rfl ?_
      refine sv_aa C (N := "SaintsRoad$Place") (by decide) (n := 4) (by decide +kernel) (by rw [kv13]; rfl) (by decide) (by omega) (by omega) ?_
      obtain ⟨v14, ev14, kv14⟩ := hI.ref (k := (ar1 : Int).toNat) kv13 (by first | rfl | (show (if _ then _ else _) = _; rw [if_pos (by omega)]))
      rw [ev14]
      refine sv_go C.1 C.2.1 [(.iload_n 2, 1)] (pc' := 26) (by decide +kernel) rfl (lv' := [(0, sv_r a), (1, sv_i ar1), (2, sv_i ar2), (3, sv_i ar3)]) (st' := [sv_i ar2, sv_r v14]) rfl ?_
      refine sv_cv C (index := 118) (k := 1) (rest := []) (ci := 3) (r := (RX4, TX4, 11)) (by decide +kernel) (sf_X4_settle l g A ty σ hok11 hTA hI v14 kv14 (ar2) ⟨by omega, by omega⟩) ⟨co_X4_settle, in_X4, ⟨by decide, by decide, by decide +kernel⟩, Nat.le_of_ble_eq_true rfl, Nat.le_of_ble_eq_true rfl⟩ ml_X9_118 im_X4_settle se_X4_settle (by rw [kv14]; rfl) rfl rfl rfl (Nat.le_of_ble_eq_true rfl) ⟨Nat.zero_le _, Nat.zero_le _⟩ (fun r16 σ17 hpo15 hok18 => ?_)
      obtain ⟨rfl, hIu19, hFu19⟩ := hpo15
      have hGu19 := hF.tr hFu19 (by decide) (by decide)
      have t20 : σ17 a 2 = (v13 : Int) + 1 := (hFu19.at k_a (by decide) (by decide)).trans ev13
      have t21 : σ17 v13 (ar1 : Int).toNat = (v14 : Int) + 1 := (hFu19.atA kv13 (by decide) (by decide)).trans ev14
      refine sv_same (st2 := []) (lv2 := [(0, sv_r a), (1, sv_i ar1), (2, sv_i ar2), (3, sv_i ar3)]) rfl rfl ?_
      refine sv_go C.1 C.2.1 [(.aload_n 0, 1)] (pc' := 30) (by decide +kernel) rfl (lv' := [(0, sv_r a), (1, sv_i ar1), (2, sv_i ar2), (3, sv_i ar3)]) (st' := [sv_r a]) rfl ?_
      refine sv_gf C (index := 25) (ci := 8) (k := 2) (r := (RX9, TX9, 6)) (v := sv_r v13) (by decide +kernel) (by rw [k_a]; rfl) rfl (by decide) fl_X9_25 (congrArg sv_a t20) ?_
      refine sv_go C.1 C.2.1 [(.iload_n 1, 1)] (pc' := 34) (by decide +kernel) rfl (lv' := [(0, sv_r a), (1, sv_i ar1), (2, sv_i ar2), (3, sv_i ar3)]) (st' := [sv_i ar1, sv_r v13]) rfl ?_
      refine sv_aa C (N := "SaintsRoad$Place") (by decide) (n := 4) (by decide +kernel) (by rw [kv13]; rfl) (by decide) (by omega) (by omega) ?_
      rw [t21]
      obtain ⟨v22, ev22, kv22⟩ := hIu19.ref (k := 0) kv14 rfl
      refine sv_gf C (index := 124) (ci := 3) (k := 0) (r := (RX4, TX4, 11)) (v := sv_r v22) (by decide +kernel) (by rw [kv14]; rfl) rfl (by decide) fl_X9_124 (congrArg sv_a ev22) ?_
      refine sv_go C.1 C.2.1 [(.iload_n 3, 1)] (pc' := 39) (by decide +kernel) rfl (lv' := [(0, sv_r a), (1, sv_i ar1), (2, sv_i ar2), (3, sv_i ar3)]) (st' := [sv_i ar3, sv_r v22]) rfl ?_
      refine sv_ia C (n := 60) (by decide +kernel) (by rw [kv22]; rfl) (by decide) (by omega) (by omega) ?_
      obtain ⟨v23, ev23, hv23⟩ := sv_rde hok18 (a := v22) (k := (ar3 : Int).toNat) (n := 60) (by rw [kv22]; rfl) (by omega)
      rw [ev23]
      exact sv_iret C hr (by decide +kernel) hok18 (⟨⟨_, rfl, ⟨by omega, by omega⟩⟩, hIu19, hGu19⟩)
    · refine sv_same (st2 := [sv_i 0]) (lv2 := [(0, sv_r a), (1, sv_i ar1), (2, sv_i ar2), (3, sv_i ar3)]) rfl rfl ?_
      refine sv_if_f C.1 C.2.1 (cnd := .ne) (off := 6) (tgt := 19) (by decide +kernel) (by decide) ⟨by omega, by omega⟩ (show ¬ (0 ≠ 0) by omega) ?_
      refine sv_go C.1 C.2.1 [(.bipush (-2), 2)] (pc' := 18) (by decide +kernel) rfl (lv' := [(0, sv_r a), (1, sv_i ar1), (2, sv_i ar2), (3, sv_i ar3)]) (st' := [sv_i ((-2))]) rfl ?_
      exact sv_iret C hr (by decide +kernel) hok11 (⟨⟨_, rfl, ⟨by omega, by omega⟩⟩, hI, hF⟩)

theorem ml_X9_128 : Cond.methodLink RX9 128 yX3_ownDayIn ∈ lw_good := sv_mem 755 (by decide +kernel) rfl
set_option maxHeartbeats 4000000 in
set_option maxRecDepth 100000 in
theorem sf_X9_own (l : Launch) (g : sv_G) (A : Nat → Prop) (ty : Nat → Nat) (σ : Nat → Nat → Int) (hok : sv_ok ty σ) (hTA : ∀ q, ty q ≠ 0 → A q) (hI : sv_inv sp_1 ty σ) (a : Nat) (k_a : ty a = 1) (ar1 : Int) (h_ar1 : (-2147483648) ≤ ar1 ∧ ar1 ≤ 2147483647) (ar2 : Int) (h_ar2 : (-2147483648) ≤ ar2 ∧ ar2 ≤ 2147483647) (ar3 : Int) (h_ar3 : (-2147483648) ≤ ar3 ∧ ar3 ≤ 2147483647) : sv_M l yX9_own cX9_own 4 (some .int) { frames := 4, cells := 0, slots := 0, locals := 88 } g A ty σ [sv_r a, sv_i ar1, sv_i ar2, sv_i ar3] (fun r σ' => σ = σ' ∧ ∃ rv : Int, r = [sv_i rv] ∧ ((-2147483648) ≤ rv ∧ rv ≤ 2147483647)) := by
  refine sv_enter (by decide) (Nat.le_of_ble_eq_true rfl) ?_
  intro p e s m args below meth c C hr
  have C : sv_C g A RX9 cX9_own 4 p s m args meth c := C
  have hr : meth.sig.returnType = (some .int) := hr
  have hF : sv_ofx [] [] ty σ σ := sv_ofx.rf
  refine sv_same (st2 := []) (lv2 := [(0, sv_r a), (1, sv_i ar1), (2, sv_i ar2), (3, sv_i ar3)]) rfl rfl ?_
  refine sv_go C.1 C.2.1 [(.aload_n 0, 1), (.iload_n 1, 1), (.iload_n 3, 1)] (pc' := 3) (by decide +kernel) rfl (lv' := [(0, sv_r a), (1, sv_i ar1), (2, sv_i ar2), (3, sv_i ar3)]) (st' := [sv_i ar3, sv_i ar1, sv_r a]) rfl ?_
  refine sv_cv C (index := 83) (k := 2) (rest := []) (ci := 8) (r := (RX9, TX9, 6)) (by decide +kernel) (sf_X9_isFeast l g A ty σ hok hTA hI a k_a (ar1) ⟨by omega, by omega⟩ (ar3) ⟨by omega, by omega⟩) ⟨co_X9_isFeast, in_X9, ⟨by decide, by decide, by decide +kernel⟩, Nat.le_of_ble_eq_true rfl, Nat.le_of_ble_eq_true rfl⟩ ml_X9_83 im_X9_isFeast se_X9_isFeast (by rw [k_a]; rfl) rfl rfl rfl (Nat.le_of_ble_eq_true rfl) ⟨Nat.zero_le _, Nat.zero_le _⟩ (fun r2 σ3 hpo1 hok4 => ?_)
  obtain ⟨rfl, ⟨vu5, rfl, hvu5, ivu5_0⟩⟩ := hpo1
  refine sv_same (st2 := [sv_i vu5]) (lv2 := [(0, sv_r a), (1, sv_i ar1), (2, sv_i ar2), (3, sv_i ar3)]) rfl rfl ?_
  refine sv_if C.1 C.2.1 (cnd := .eq) (off := 10) (tgt := 16) (by decide +kernel) (by decide) ⟨by omega, by omega⟩ (fun (h6 : vu5 = 0) => ?_) (fun (h6 : ¬ (vu5 = 0)) => ?_)
  · refine sv_go C.1 C.2.1 [(.bipush (-2), 2)] (pc' := 18) (by decide +kernel) rfl (lv' := [(0, sv_r a), (1, sv_i ar1), (2, sv_i ar2), (3, sv_i ar3)]) (st' := [sv_i ((-2))]) rfl ?_
    exact sv_iret C hr (by decide +kernel) hok4 (⟨rfl, ⟨_, rfl, ⟨by omega, by omega⟩⟩⟩)
  · have hp7 := ivu5_0 (by omega) (by omega)
    refine sv_go C.1 C.2.1 [(.iload_n 2, 1)] (pc' := 10) (by decide +kernel) rfl (lv' := [(0, sv_r a), (1, sv_i ar1), (2, sv_i ar2), (3, sv_i ar3)]) (st' := [sv_i ar2]) rfl ?_
    refine sv_cs C (index := 97) (k := 1) (rest := []) (by decide +kernel) (ct_X2_isYear l g A ty σ hok4 (ar2) ⟨by omega, by omega⟩) ⟨co_X2_isYear, in_X2, ⟨by decide, by decide, by decide +kernel⟩, Nat.le_of_ble_eq_true rfl, Nat.le_of_ble_eq_true rfl⟩ ml_X9_97 st_X2_isYear rfl rfl (Nat.le_of_ble_eq_true rfl) ⟨Nat.zero_le _, Nat.zero_le _⟩ (fun r9 σ10 hpo8 hok11 => ?_)
    obtain ⟨rfl, ⟨h12, rfl⟩ | ⟨h12, rfl⟩⟩ := hpo8
    · refine sv_same (st2 := [sv_i 1]) (lv2 := [(0, sv_r a), (1, sv_i ar1), (2, sv_i ar2), (3, sv_i ar3)]) rfl rfl ?_
      refine sv_if_t C.1 C.2.1 (cnd := .ne) (off := 6) (tgt := 19) (by decide +kernel) (by decide) ⟨by omega, by omega⟩ (show 1 ≠ 0 by omega) ?_
      refine sv_go C.1 C.2.1 [(.aload_n 0, 1)] (pc' := 20) (by decide +kernel) rfl (lv' := [(0, sv_r a), (1, sv_i ar1), (2, sv_i ar2), (3, sv_i ar3)]) (st' := [sv_r a]) rfl ?_
      obtain ⟨v13, ev13, kv13⟩ := hI.ref (k := 2) k_a rfl
      refine sv_gf C (index := 25) (ci := 8) (k := 2) (r := (RX9, TX9, 6)) (v := sv_r v13) (by decide +kernel) (by rw [k_a]; rfl) rfl (by decide) fl_X9_25 (congrArg sv_a ev13) ?_
      refine sv_go C.1 C.2.1 [(.iload_n 1, 1)] (pc' := 24) (by decide +kernel) rfl (lv' := [(0, sv_r a), (1, sv_i ar1), (2, sv_i ar2), (3, sv_i ar3)]) (st' := [sv_i ar1, sv_r v13]) rfl ?_
      refine sv_aa C (N := "SaintsRoad$Place") (by decide) (n := 4) (by decide +kernel) (by rw [kv13]; rfl) (by decide) (by omega) (by omega) ?_
      obtain ⟨v14, ev14, kv14⟩ := hI.ref (k := (ar1 : Int).toNat) kv13 (by first | rfl | (show (if _ then _ else _) = _; rw [if_pos (by omega)]))
      rw [ev14]
      obtain ⟨v15, ev15, kv15⟩ := hI.ref (k := 2) kv14 rfl
      refine sv_gf C (index := 71) (ci := 3) (k := 2) (r := (RX4, TX4, 11)) (v := sv_r v15) (by decide +kernel) (by rw [kv14]; rfl) rfl (by decide) fl_X9_71 (congrArg sv_a ev15) ?_
      obtain ⟨v16, ev16, kv16⟩ := hI.ref (k := 0) kv15 rfl
      refine sv_gf C (index := 87) (ci := 1) (k := 0) (r := (RX1, TX1, 6)) (v := sv_r v16) (by decide +kernel) (by rw [kv15]; rfl) rfl (by decide) fl_X9_87 (congrArg sv_a ev16) ?_
      refine sv_go C.1 C.2.1 [(.iload_n 3, 1)] (pc' := 32) (by decide +kernel) rfl (lv' := [(0, sv_r a), (1, sv_i ar1), (2, sv_i ar2), (3, sv_i ar3)]) (st' := [sv_i ar3, sv_r v16]) rfl ?_
      refine sv_aa C (N := "SaintsRoad$Feast") (by decide) (n := 60) (by decide +kernel) (by rw [kv16]; rfl) (by decide) (by omega) (by omega) ?_
      obtain ⟨v17, ev17, kv17⟩ := hI.ref (k := (ar3 : Int).toNat) kv16 (by first | rfl | (show (if _ then _ else _) = _; rw [if_pos (by omega)]))
      rw [ev17]
      refine sv_go C.1 C.2.1 [(.iload_n 2, 1), (.iload_n 2, 1)] (pc' := 35) (by decide +kernel) rfl (lv' := [(0, sv_r a), (1, sv_i ar1), (2, sv_i ar2), (3, sv_i ar3)]) (st' := [sv_i ar2, sv_i ar2, sv_r v17]) rfl ?_
      refine sv_cs C (index := 102) (k := 1) (rest := [sv_i ar2, sv_r v17]) (by decide +kernel) (ct_X2_easterOf l g A ty σ hok11 (ar2) ⟨by omega, by omega⟩) ⟨co_X2_easterOf, in_X2, ⟨by decide, by decide, by decide +kernel⟩, Nat.le_of_ble_eq_true rfl, Nat.le_of_ble_eq_true rfl⟩ ml_X9_102 st_X2_easterOf rfl rfl (Nat.le_of_ble_eq_true rfl) ⟨Nat.zero_le _, Nat.zero_le _⟩ (fun r19 σ20 hpo18 hok21 => ?_)
      obtain ⟨rfl, rfl⟩ := hpo18
      have hn23 := dy_ea_in ar2
      refine sv_same (st2 := [sv_i (dy_ea ar2), sv_i ar2, sv_r v17]) (lv2 := [(0, sv_r a), (1, sv_i ar1), (2, sv_i ar2), (3, sv_i ar3)]) rfl rfl ?_
      refine sv_cv C (index := 128) (k := 2) (rest := []) (ci := 2) (r := (RX3, TX3, 12)) (by decide +kernel) (sf_X3_ownDayIn l g A ty σ hok21 hTA hI v17 kv17 (ar2) ⟨by omega, by omega⟩ (dy_ea ar2) ⟨by omega, by omega⟩) ⟨co_X3_ownDayIn, in_X3, ⟨by decide, by decide, by decide +kernel⟩, Nat.le_of_ble_eq_true rfl, Nat.le_of_ble_eq_true rfl⟩ ml_X9_128 im_X3_ownDayIn se_X3_ownDayIn (by rw [kv17]; rfl) rfl rfl rfl (Nat.le_of_ble_eq_true rfl) ⟨Nat.zero_le _, Nat.zero_le _⟩ (fun r25 σ26 hpo24 hok27 => ?_)
      obtain ⟨rfl, ⟨vu28, rfl, hvu28⟩⟩ := hpo24
      refine sv_same (st2 := [sv_i vu28]) (lv2 := [(0, sv_r a), (1, sv_i ar1), (2, sv_i ar2), (3, sv_i ar3)]) rfl rfl ?_
      exact sv_iret C hr (by decide +kernel) hok27 (⟨rfl, ⟨_, rfl, ⟨by omega, by omega⟩⟩⟩)
    · refine sv_same (st2 := [sv_i 0]) (lv2 := [(0, sv_r a), (1, sv_i ar1), (2, sv_i ar2), (3, sv_i ar3)]) rfl rfl ?_
      refine sv_if_f C.1 C.2.1 (cnd := .ne) (off := 6) (tgt := 19) (by decide +kernel) (by decide) ⟨by omega, by omega⟩ (show ¬ (0 ≠ 0) by omega) ?_
      refine sv_go C.1 C.2.1 [(.bipush (-2), 2)] (pc' := 18) (by decide +kernel) rfl (lv' := [(0, sv_r a), (1, sv_i ar1), (2, sv_i ar2), (3, sv_i ar3)]) (st' := [sv_i ((-2))]) rfl ?_
      exact sv_iret C hr (by decide +kernel) hok11 (⟨rfl, ⟨_, rfl, ⟨by omega, by omega⟩⟩⟩)

theorem ml_X9_131 : Cond.methodLink RX9 131 yX4_isFast ∈ lw_good := sv_mem 760 (by decide +kernel) rfl
theorem co_X4_isFast : Cond.code yX4_isFast cX4_isFast 3 (some .boolean) ∈ lw_good := sv_mem 763 (by decide +kernel) rfl
theorem im_X4_isFast : Cond.instanceMethod yX4_isFast ∈ lw_good := sv_mem 761 (by decide +kernel) rfl
theorem se_X4_isFast : Cond.selects RX4 yX4_isFast yX4_isFast ∈ lw_good := sv_mem 762 (by decide +kernel) rfl
set_option maxHeartbeats 4000000 in
set_option maxRecDepth 100000 in
theorem sf_X9_fast (l : Launch) (g : sv_G) (A : Nat → Prop) (ty : Nat → Nat) (σ : Nat → Nat → Int) (hok : sv_ok ty σ) (hTA : ∀ q, ty q ≠ 0 → A q) (hI : sv_inv sp_1 ty σ) (a : Nat) (k_a : ty a = 1) (ar1 : Int) (h_ar1 : (-2147483648) ≤ ar1 ∧ ar1 ≤ 2147483647) (ar2 : Int) (h_ar2 : (-2147483648) ≤ ar2 ∧ ar2 ≤ 2147483647) (ar3 : Int) (h_ar3 : (-2147483648) ≤ ar3 ∧ ar3 ≤ 2147483647) : sv_M l yX9_fast cX9_fast 4 (some .int) { frames := 6, cells := 0, slots := 0, locals := 134 } g A ty σ [sv_r a, sv_i ar1, sv_i ar2, sv_i ar3] (fun r σ' => (∃ rv : Int, r = [sv_i rv] ∧ ((-2) ≤ rv ∧ rv ≤ 1)) ∧ sv_inv sp_1 ty σ' ∧ sv_ofx [(4, 7), (4, 8), (4, 9), (4, 10)] [24, 25, 26, 27, 28, 29] ty σ σ') := by
  refine sv_enter (by decide) (Nat.le_of_ble_eq_true rfl) ?_
  intro p e s m args below meth c C hr
  have C : sv_C g A RX9 cX9_fast 4 p s m args meth c := C
  have hr : meth.sig.returnType = (some .int) := hr
  have hF : sv_ofx [(4, 7), (4, 8), (4, 9), (4, 10)] [24, 25, 26, 27, 28, 29] ty σ σ := sv_ofx.rf
  refine sv_same (st2 := []) (lv2 := [(0, sv_r a), (1, sv_i ar1), (2, sv_i ar2), (3, sv_i ar3)]) rfl rfl ?_
  refine sv_go C.1 C.2.1 [(.iload_n 1, 1)] (pc' := 1) (by decide +kernel) rfl (lv' := [(0, sv_r a), (1, sv_i ar1), (2, sv_i ar2), (3, sv_i ar3)]) (st' := [sv_i ar1]) rfl ?_
  refine sv_cs C (index := 59) (k := 1) (rest := []) (by decide +kernel) (sf_X9_isPlace l g A ty σ hok hTA hI (ar1) ⟨by omega, by omega⟩) ⟨co_X9_isPlace, in_X9, ⟨by decide, by decide, by decide +kernel⟩, Nat.le_of_ble_eq_true rfl, Nat.le_of_ble_eq_true rfl⟩ ml_X9_59 st_X9_isPlace rfl rfl (Nat.le_of_ble_eq_true rfl) ⟨Nat.zero_le _, Nat.zero_le _⟩ (fun r2 σ3 hpo1 hok4 => ?_)
  obtain ⟨rfl, ⟨vu5, rfl, hvu5, ivu5_0⟩⟩ := hpo1
  refine sv_same (st2 := [sv_i vu5]) (lv2 := [(0, sv_r a), (1, sv_i ar1), (2, sv_i ar2), (3, sv_i ar3)]) rfl rfl ?_
  refine sv_if C.1 C.2.1 (cnd := .eq) (off := 11) (tgt := 15) (by decide +kernel) (by decide) ⟨by omega, by omega⟩ (fun (h6 : vu5 = 0) => ?_) (fun (h6 : ¬ (vu5 = 0)) => ?_)
  · refine sv_go C.1 C.2.1 [(.bipush (-2), 2)] (pc' := 17) (by decide +kernel) rfl (lv' := [(0, sv_r a), (1, sv_i ar1), (2, sv_i ar2), (3, sv_i ar3)]) (st' := [sv_i ((-2))]) rfl ?_
    exact sv_iret C hr (by decide +kernel) hok4 (⟨⟨_, rfl, ⟨by omega, by omega⟩⟩, hI, hF⟩)
  · have hp7 := ivu5_0 (by omega) (by omega)
    refine sv_go C.1 C.2.1 [(.iload_n 2, 1), (.iload_n 3, 1)] (pc' := 9) (by decide +kernel) rfl (lv' := [(0, sv_r a), (1, sv_i ar1), (2, sv_i ar2), (3, sv_i ar3)]) (st' := [sv_i ar3, sv_i ar2]) rfl ?_
    refine sv_cs C (index := 105) (k := 2) (rest := []) (by decide +kernel) (ct_X2_isDay l g A ty σ hok4 (ar2) ⟨by omega, by omega⟩ (ar3) ⟨by omega, by omega⟩) ⟨co_X2_isDay, in_X2, ⟨by decide, by decide, by decide +kernel⟩, Nat.le_of_ble_eq_true rfl, Nat.le_of_ble_eq_true rfl⟩ ml_X9_105 st_X2_isDay rfl rfl (Nat.le_of_ble_eq_true rfl) ⟨Nat.zero_le _, Nat.zero_le _⟩ (fun r9 σ10 hpo8 hok11 => ?_)
    obtain ⟨rfl, ⟨h12, rfl⟩ | ⟨h12, rfl⟩⟩ := hpo8
    · have hn13 := dy_lp_in ar2
      refine sv_same (st2 := [sv_i 1]) (lv2 := [(0, sv_r a), (1, sv_i ar1), (2, sv_i ar2), (3, sv_i ar3)]) rfl rfl ?_
      refine sv_if_t C.1 C.2.1 (cnd := .ne) (off := 6) (tgt := 18) (by decide +kernel) (by decide) ⟨by omega, by omega⟩ (show 1 ≠ 0 by omega) ?_
      refine sv_go C.1 C.2.1 [(.aload_n 0, 1)] (pc' := 19) (by decide +kernel) rfl (lv' := [(0, sv_r a), (1, sv_i ar1), (2, sv_i ar2), (3, sv_i ar3)]) (st' := [sv_r a]) rfl ?_
      obtain ⟨v14, ev14, kv14⟩ := hI.ref (k := 2) k_a rfl
      refine sv_gf C (index := 25) (ci := 8) (k := 2) (r := (RX9, TX9, 6)) (v := sv_r v14) (by decide +kernel) (by rw [k_a]; rfl) rfl (by decide) fl_X9_25 (congrArg sv_a ev14) ?_
      refine sv_go C.1 C.2.1 [(.iload_n 1, 1)] (pc' := 23) (by decide +kernel) rfl (lv' := [(0, sv_r a), (1, sv_i ar1), (2, sv_i ar2), (3, sv_i ar3)]) (st' := [sv_i ar1, sv_r v14]) rfl ?_
      refine sv_aa C (N := "SaintsRoad$Place") (by decide) (n := 4) (by decide +kernel) (by rw [kv14]; rfl) (by decide) (by omega) (by omega) ?_
      obtain ⟨v15, ev15, kv15⟩ := hI.ref (k := (ar1 : Int).toNat) kv14 (by first | rfl | (show (if _ then _ else _) = _; rw [if_pos (by omega)]))
      rw [ev15]
      refine sv_go C.1 C.2.1 [(.iload_n 2, 1)] (pc' := 25) (by decide +kernel) rfl (lv' := [(0, sv_r a), (1, sv_i ar1), (2, sv_i ar2), (3, sv_i ar3)]) (st' := [sv_i ar2, sv_r v15]) rfl ?_
      refine sv_cv C (index := 118) (k := 1) (rest := []) (ci := 3) (r := (RX4, TX4, 11)) (by decide +kernel) (sf_X4_settle l g A ty σ hok11 hTA hI v15 kv15 (ar2) ⟨by omega, by omega⟩) ⟨co_X4_settle, in_X4, ⟨by decide, by decide, by decide +kernel⟩, Nat.le_of_ble_eq_true rfl, Nat.le_of_ble_eq_true rfl⟩ ml_X9_118 im_X4_settle se_X4_settle (by rw [kv15]; rfl) rfl rfl rfl (Nat.le_of_ble_eq_true rfl) ⟨Nat.zero_le _, Nat.zero_le _⟩ (fun r17 σ18 hpo16 hok19 => ?_)
      obtain ⟨rfl, hIu20, hFu20⟩ := hpo16
      have hGu20 := hF.tr hFu20 (by decide) (by decide)
      have t21 : σ18 a 2 = (v14 : Int) + 1 := (hFu20.at k_a (by decide) (by decide)).trans ev14
      have t22 : σ18 v14 (ar1 : Int).toNat = (v15 : Int) + 1 := (hFu20.atA kv14 (by decide) (by decide)).trans ev15
      refine sv_same (st2 := []) (lv2 := [(0, sv_r a), (1, sv_i ar1), (2, sv_i ar2), (3, sv_i ar3)]) rfl rfl ?_
      refine sv_go C.1 C.2.1 [(.aload_n 0, 1)] (pc' := 29) (by decide +kernel) rfl (lv' := [(0, sv_r a), (1, sv_i ar1), (2, sv_i ar2), (3, sv_i ar3)]) (st' := [sv_r a]) rfl ?_
      refine sv_gf C (index := 25) (ci := 8) (k := 2) (r := (RX9, TX9, 6)) (v := sv_r v14) (by decide +kernel) (by rw [k_a]; rfl) rfl (by decide) fl_X9_25 (congrArg sv_a t21) ?_
      refine sv_go C.1 C.2.1 [(.iload_n 1, 1)] (pc' := 33) (by decide +kernel) rfl (lv' := [(0, sv_r a), (1, sv_i ar1), (2, sv_i ar2), (3, sv_i ar3)]) (st' := [sv_i ar1, sv_r v14]) rfl ?_
      refine sv_aa C (N := "SaintsRoad$Place") (by decide) (n := 4) (by decide +kernel) (by rw [kv14]; rfl) (by decide) (by omega) (by omega) ?_
      rw [t22]
      refine sv_go C.1 C.2.1 [(.iload_n 3, 1)] (pc' := 35) (by decide +kernel) rfl (lv' := [(0, sv_r a), (1, sv_i ar1), (2, sv_i ar2), (3, sv_i ar3)]) (st' := [sv_i ar3, sv_r v15]) rfl ?_
      refine sv_cv C (index := 131) (k := 1) (rest := []) (ci := 3) (r := (RX4, TX4, 11)) (by decide +kernel) (sf_X4_isFast l g A ty σ18 hok19 hTA hIu20 v15 kv15 (ar3) ⟨by omega, by omega⟩) ⟨co_X4_isFast, in_X4, ⟨by decide, by decide, by decide +kernel⟩, Nat.le_of_ble_eq_true rfl, Nat.le_of_ble_eq_true rfl⟩ ml_X9_131 im_X4_isFast se_X4_isFast (by rw [kv15]; rfl) rfl rfl rfl (Nat.le_of_ble_eq_true rfl) ⟨Nat.zero_le _, Nat.zero_le _⟩ (fun r24 σ25 hpo23 hok26 => ?_)
      obtain ⟨rfl, ⟨vu27, rfl, hvu27⟩⟩ := hpo23
      refine sv_same (st2 := [sv_i vu27]) (lv2 := [(0, sv_r a), (1, sv_i ar1), (2, sv_i ar2), (3, sv_i ar3)]) rfl rfl ?_
      refine sv_if C.1 C.2.1 (cnd := .eq) (off := 7) (tgt := 45) (by decide +kernel) (by decide) ⟨by omega, by omega⟩ (fun (h28 : vu27 = 0) => ?_) (fun (h28 : ¬ (vu27 = 0)) => ?_)
      · refine sv_go C.1 C.2.1 [(.iconst 0, 1)] (pc' := 46) (by decide +kernel) rfl (lv' := [(0, sv_r a), (1, sv_i ar1), (2, sv_i ar2), (3, sv_i ar3)]) (st' := [sv_i 0]) rfl ?_
        exact sv_iret C hr (by decide +kernel) hok26 (⟨⟨_, rfl, ⟨by omega, by omega⟩⟩, hIu20, hGu20⟩)
      · refine sv_go C.1 C.2.1 [(.iconst 1, 1)] (pc' := 42) (by decide +kernel) rfl (lv' := [(0, sv_r a), (1, sv_i ar1), (2, sv_i ar2), (3, sv_i ar3)]) (st' := [sv_i 1]) rfl ?_
        refine sv_goto C.1 C.2.1 (off := 4) (tgt := 46) (by decide +kernel) (by decide) ?_
        exact sv_iret C hr (by decide +kernel) hok26 (⟨⟨_, rfl, ⟨by omega, by omega⟩⟩, hIu20, hGu20⟩)
    · have hn13 := dy_lp_in ar2
      refine sv_same (st2 := [sv_i 0]) (lv2 := [(0, sv_r a), (1, sv_i ar1), (2, sv_i ar2), (3, sv_i ar3)]) rfl rfl ?_
      refine sv_if_f C.1 C.2.1 (cnd := .ne) (off := 6) (tgt := 18) (by decide +kernel) (by decide) ⟨by omega, by omega⟩ (show ¬ (0 ≠ 0) by omega) ?_
      refine sv_go C.1 C.2.1 [(.bipush (-2), 2)] (pc' := 17) (by decide +kernel) rfl (lv' := [(0, sv_r a), (1, sv_i ar1), (2, sv_i ar2), (3, sv_i ar3)]) (st' := [sv_i ((-2))]) rfl ?_
      exact sv_iret C hr (by decide +kernel) hok11 (⟨⟨_, rfl, ⟨by omega, by omega⟩⟩, hI, hF⟩)

theorem ml_X9_134 : Cond.methodLink RX9 134 yX4_waxOf ∈ lw_good := sv_mem 780 (by decide +kernel) rfl
theorem co_X4_waxOf : Cond.code yX4_waxOf cX4_waxOf 5 (some .int) ∈ lw_good := sv_mem 783 (by decide +kernel) rfl
theorem im_X4_waxOf : Cond.instanceMethod yX4_waxOf ∈ lw_good := sv_mem 781 (by decide +kernel) rfl
theorem se_X4_waxOf : Cond.selects RX4 yX4_waxOf yX4_waxOf ∈ lw_good := sv_mem 782 (by decide +kernel) rfl
set_option maxHeartbeats 4000000 in
set_option maxRecDepth 100000 in
theorem sf_X9_wax (l : Launch) (g : sv_G) (A : Nat → Prop) (ty : Nat → Nat) (σ : Nat → Nat → Int) (hok : sv_ok ty σ) (hTA : ∀ q, ty q ≠ 0 → A q) (hI : sv_inv sp_1 ty σ) (a : Nat) (k_a : ty a = 1) (ar1 : Int) (h_ar1 : (-2147483648) ≤ ar1 ∧ ar1 ≤ 2147483647) (ar2 : Int) (h_ar2 : (-2147483648) ≤ ar2 ∧ ar2 ≤ 2147483647) (ar3 : Int) (h_ar3 : (-2147483648) ≤ ar3 ∧ ar3 ≤ 2147483647) (ar4 : Int) (h_ar4 : (-2147483648) ≤ ar4 ∧ ar4 ≤ 2147483647) : sv_M l yX9_wax cX9_wax 8 (some .int) { frames := 6, cells := 0, slots := 0, locals := 134 } g A ty σ [sv_r a, sv_i ar1, sv_i ar2, sv_i ar3, sv_i ar4] (fun r σ' => (∃ rv : Int, r = [sv_i rv] ∧ ((-2147483648) ≤ rv ∧ rv ≤ 2147483647)) ∧ sv_inv sp_1 ty σ' ∧ sv_ofx [(4, 7), (4, 8), (4, 9), (4, 10)] [24, 25, 26, 27, 28, 29] ty σ σ') := by
  refine sv_enter (by decide) (Nat.le_of_ble_eq_true rfl) ?_
  intro p e s m args below meth c C hr
  have C : sv_C g A RX9 cX9_wax 8 p s m args meth c := C
  have hr : meth.sig.returnType = (some .int) := hr
  have hF : sv_ofx [(4, 7), (4, 8), (4, 9), (4, 10)] [24, 25, 26, 27, 28, 29] ty σ σ := sv_ofx.rf
  refine sv_same (st2 := []) (lv2 := [(0, sv_r a), (1, sv_i ar1), (2, sv_i ar2), (3, sv_i ar3), (4, sv_i ar4)]) rfl rfl ?_
  refine sv_go C.1 C.2.1 [(.iload_n 1, 1)] (pc' := 1) (by decide +kernel) rfl (lv' := [(0, sv_r a), (1, sv_i ar1), (2, sv_i ar2), (3, sv_i ar3), (4, sv_i ar4)]) (st' := [sv_i ar1]) rfl ?_
  refine sv_cs C (index := 59) (k := 1) (rest := []) (by decide +kernel) (sf_X9_isPlace l g A ty σ hok hTA hI (ar1) ⟨by omega, by omega⟩) ⟨co_X9_isPlace, in_X9, ⟨by decide, by decide, by decide +kernel⟩, Nat.le_of_ble_eq_true rfl, Nat.le_of_ble_eq_true rfl⟩ ml_X9_59 st_X9_isPlace rfl rfl (Nat.le_of_ble_eq_true rfl) ⟨Nat.zero_le _, Nat.zero_le _⟩ (fun r2 σ3 hpo1 hok4 => ?_)
  obtain ⟨rfl, ⟨vu5, rfl, hvu5, ivu5_0⟩⟩ := hpo1
  refine sv_same (st2 := [sv_i vu5]) (lv2 := [(0, sv_r a), (1, sv_i ar1), (2, sv_i ar2), (3, sv_i ar3), (4, sv_i ar4)]) rfl rfl ?_
  refine sv_if C.1 C.2.1 (cnd := .eq) (off := 26) (tgt := 30) (by decide +kernel) (by decide) ⟨by omega, by omega⟩ (fun (h6 : vu5 = 0) => ?_) (fun (h6 : ¬ (vu5 = 0)) => ?_)
  · refine sv_go C.1 C.2.1 [(.bipush (-2), 2)] (pc' := 32) (by decide +kernel) rfl (lv' := [(0, sv_r a), (1, sv_i ar1), (2, sv_i ar2), (3, sv_i ar3), (4, sv_i ar4)]) (st' := [sv_i ((-2))]) rfl ?_
    exact sv_iret C hr (by decide +kernel) hok4 (⟨⟨_, rfl, ⟨by omega, by omega⟩⟩, hI, hF⟩)
  · have hp7 := ivu5_0 (by omega) (by omega)
    refine sv_go C.1 C.2.1 [(.iload_n 2, 1), (.iload_n 3, 1)] (pc' := 9) (by decide +kernel) rfl (lv' := [(0, sv_r a), (1, sv_i ar1), (2, sv_i ar2), (3, sv_i ar3), (4, sv_i ar4)]) (st' := [sv_i ar3, sv_i ar2]) rfl ?_
    refine sv_cs C (index := 105) (k := 2) (rest := []) (by decide +kernel) (ct_X2_isDay l g A ty σ hok4 (ar2) ⟨by omega, by omega⟩ (ar3) ⟨by omega, by omega⟩) ⟨co_X2_isDay, in_X2, ⟨by decide, by decide, by decide +kernel⟩, Nat.le_of_ble_eq_true rfl, Nat.le_of_ble_eq_true rfl⟩ ml_X9_105 st_X2_isDay rfl rfl (Nat.le_of_ble_eq_true rfl) ⟨Nat.zero_le _, Nat.zero_le _⟩ (fun r9 σ10 hpo8 hok11 => ?_)
    obtain ⟨rfl, ⟨h12, rfl⟩ | ⟨h12, rfl⟩⟩ := hpo8
    · have hn13 := dy_lp_in ar2
      refine sv_same (st2 := [sv_i 1]) (lv2 := [(0, sv_r a), (1, sv_i ar1), (2, sv_i ar2), (3, sv_i ar3), (4, sv_i ar4)]) rfl rfl ?_
      refine sv_if_f C.1 C.2.1 (cnd := .eq) (off := 18) (tgt := 30) (by decide +kernel) (by decide) ⟨by omega, by omega⟩ (show ¬ (1 = 0) by omega) ?_
      refine sv_go C.1 C.2.1 [(.iload_n 2, 1), (.iload 4, 2)] (pc' := 18) (by decide +kernel) rfl (lv' := [(0, sv_r a), (1, sv_i ar1), (2, sv_i ar2), (3, sv_i ar3), (4, sv_i ar4)]) (st' := [sv_i ar4, sv_i ar2]) rfl ?_
      refine sv_cs C (index := 105) (k := 2) (rest := []) (by decide +kernel) (ct_X2_isDay l g A ty σ hok11 (ar2) ⟨by omega, by omega⟩ (ar4) ⟨by omega, by omega⟩) ⟨co_X2_isDay, in_X2, ⟨by decide, by decide, by decide +kernel⟩, Nat.le_of_ble_eq_true rfl, Nat.le_of_ble_eq_true rfl⟩ ml_X9_105 st_X2_isDay rfl rfl (Nat.le_of_ble_eq_true rfl) ⟨Nat.zero_le _, Nat.zero_le _⟩ (fun r15 σ16 hpo14 hok17 => ?_)
      obtain ⟨rfl, ⟨h18, rfl⟩ | ⟨h18, rfl⟩⟩ := hpo14
      · have hn19 := dy_lp_in ar2
        refine sv_same (st2 := [sv_i 1]) (lv2 := [(0, sv_r a), (1, sv_i ar1), (2, sv_i ar2), (3, sv_i ar3), (4, sv_i ar4)]) rfl rfl ?_
        refine sv_if_f C.1 C.2.1 (cnd := .eq) (off := 9) (tgt := 30) (by decide +kernel) (by decide) ⟨by omega, by omega⟩ (show ¬ (1 = 0) by omega) ?_
        refine sv_go C.1 C.2.1 [(.iload_n 3, 1), (.iload 4, 2)] (pc' := 27) (by decide +kernel) rfl (lv' := [(0, sv_r a), (1, sv_i ar1), (2, sv_i ar2), (3, sv_i ar3), (4, sv_i ar4)]) (st' := [sv_i ar4, sv_i ar3]) rfl ?_
        refine sv_icmp C.1 C.2.1 (cnd := .le) (off := 6) (tgt := 33) (by decide +kernel) (by decide) ⟨by omega, by omega⟩ ⟨by omega, by omega⟩ (fun (h20 : ar3 ≤ ar4) => ?_) (fun (h20 : ¬ (ar3 ≤ ar4)) => ?_)
        · refine sv_go C.1 C.2.1 [(.aload_n 0, 1)] (pc' := 34) (by decide +kernel) rfl (lv' := [(0, sv_r a), (1, sv_i ar1), (2, sv_i ar2), (3, sv_i ar3), (4, sv_i ar4)]) (st' := [sv_r a]) rfl ?_
          obtain ⟨v21, ev21, kv21⟩ := hI.ref (k := 2) k_a rfl
          refine sv_gf C (index := 25) (ci := 8) (k := 2) (r := (RX9, TX9, 6)) (v := sv_r v21) (by decide +kernel) (by rw [k_a]; rfl) rfl (by decide) fl_X9_25 (congrArg sv_a ev21) ?_
          refine sv_go C.1 C.2.1 [(.iload_n 1, 1)] (pc' := 38) (by decide +kernel) rfl (lv' := [(0, sv_r a), (1, sv_i ar1), (2, sv_i ar2), (3, sv_i ar3), (4, sv_i ar4)]) (st' := [sv_i ar1, sv_r v21]) rfl ?_
          refine sv_aa C (N := "SaintsRoad$Place") (by decide) (n := 4) (by decide +kernel) (by rw [kv21]; rfl) (by decide) (by omega) (by omega) ?_
          obtain ⟨v22, ev22, kv22⟩ := hI.ref (k := (ar1 : Int).toNat) kv21 (by first | rfl | (show (if _ then _ else _) = _; rw [if_pos (by omega)]))
          rw [ev22]
          refine sv_go C.1 C.2.1 [(.astore 5, 2), (.aload 5, 2), (.iload_n 2, 1)] (pc' := 44) (by decide +kernel) rfl (lv' := [(0, sv_r a), (1, sv_i ar1), (2, sv_i ar2), (3, sv_i ar3), (4, sv_i ar4), (5, sv_r v22)]) (st' := [sv_i ar2, sv_r v22]) rfl ?_
          refine sv_cv C (index := 118) (k := 1) (rest := []) (ci := 3) (r := (RX4, TX4, 11)) (by decide +kernel) (sf_X4_settle l g A ty σ hok17 hTA hI v22 kv22 (ar2) ⟨by omega, by omega⟩) ⟨co_X4_settle, in_X4, ⟨by decide, by decide, by decide +kernel⟩, Nat.le_of_ble_eq_true rfl, Nat.le_of_ble_eq_true rfl⟩ ml_X9_118 im_X4_settle se_X4_settle (by rw [kv22]; rfl) rfl rfl rfl (Nat.le_of_ble_eq_true rfl) ⟨Nat.zero_le _, Nat.zero_le _⟩ (fun r24 σ25 hpo23 hok26 => ?_)
          obtain ⟨rfl, hIu27, hFu27⟩ := hpo23
          have hGu27 := hF.tr hFu27 (by decide) (by decide)
          have t28 : σ25 a 2 = (v21 : Int) + 1 := (hFu27.at k_a (by decide) (by decide)).trans ev21
          have t29 : σ25 v21 (ar1 : Int).toNat = (v22 : Int) + 1 := (hFu27.atA kv21 (by decide) (by decide)).trans ev22
          refine sv_same (st2 := []) (lv2 := [(0, sv_r a), (1, sv_i ar1), (2, sv_i ar2), (3, sv_i ar3), (4, sv_i ar4), (5, sv_r v22)]) rfl rfl ?_
          refine sv_go C.1 C.2.1 [(.iconst 0, 1), (.istore 6, 2), (.iload_n 3, 1), (.istore 7, 2)] (pc' := 53) (by decide +kernel) rfl (lv' := [(0, sv_r a), (1, sv_i ar1), (2, sv_i ar2), (3, sv_i ar3), (4, sv_i ar4), (5, sv_r v22), (6, sv_i 0), (7, sv_i ar3)]) (st' := []) rfl ?_
          have L31 : ∀ (n : Nat) (Xg30_l6 : Int) (Xg30_l7 : Int), ((-2147483648) ≤ Xg30_l6 ∧ Xg30_l6 ≤ 2147483647) → (0 ≤ Xg30_l7 ∧ Xg30_l7 ≤ 366) → (366 - Xg30_l7) < (n : Int) → sv_E p l e { frames := 6, cells := 0, slots := 0, locals := 134 } s m args below meth c 8 g A ty (fun r σ' => (∃ rv : Int, r = [sv_i rv] ∧ ((-2147483648) ≤ rv ∧ rv ≤ 2147483647)) ∧ sv_inv sp_1 ty σ' ∧ sv_ofx [(4, 7), (4, 8), (4, 9), (4, 10)] [24, 25, 26, 27, 28, 29] ty σ σ') σ25 53 [(4, sv_i ar4), (5, sv_r v22), (6, sv_i Xg30_l6), (7, sv_i Xg30_l7)] [] := by
            intro n
            induction n with
            | zero => intro Xg30_l6 Xg30_l7 hXg30_l6 hXg30_l7 hmu; exact absurd hmu (by omega)
            | succ n ih32 =>
              intro Xg30_l6 Xg30_l7 hXg30_l6 hXg30_l7 hmu
              refine sv_go C.1 C.2.1 [(.iload 7, 2), (.iload 4, 2)] (pc' := 57) (by decide +kernel) rfl (lv' := [(4, sv_i ar4), (5, sv_r v22), (6, sv_i Xg30_l6), (7, sv_i Xg30_l7)]) (st' := [sv_i ar4, sv_i Xg30_l7]) rfl ?_
              refine sv_icmp C.1 C.2.1 (cnd := .gt) (off := 21) (tgt := 78) (by decide +kernel) (by decide) ⟨by omega, by omega⟩ ⟨by omega, by omega⟩ (fun (h33 : ar4 < Xg30_l7) => ?_) (fun (h33 : ¬ (ar4 < Xg30_l7)) => ?_)
              · refine sv_go C.1 C.2.1 [(.iload 6, 2)] (pc' := 80) (by decide +kernel) rfl (lv' := [(4, sv_i ar4), (5, sv_r v22), (6, sv_i Xg30_l6), (7, sv_i Xg30_l7)]) (st' := [sv_i Xg30_l6]) rfl ?_
                exact sv_iret C hr (by decide +kernel) hok26 (⟨⟨_, rfl, ⟨by omega, by omega⟩⟩, hIu27, hGu27⟩)
              · refine sv_go C.1 C.2.1 [(.iload 6, 2), (.aload 5, 2), (.iload 7, 2)] (pc' := 66) (by decide +kernel) rfl (lv' := [(4, sv_i ar4), (5, sv_r v22), (6, sv_i Xg30_l6), (7, sv_i Xg30_l7)]) (st' := [sv_i Xg30_l7, sv_r v22, sv_i Xg30_l6]) rfl ?_
                refine sv_cv C (index := 134) (k := 1) (rest := [sv_i Xg30_l6]) (ci := 3) (r := (RX4, TX4, 11)) (by decide +kernel) (sf_X4_waxOf l g A ty σ25 hok26 hTA hIu27 v22 kv22 (Xg30_l7) ⟨by omega, by omega⟩) ⟨co_X4_waxOf, in_X4, ⟨by decide, by decide, by decide +kernel⟩, Nat.le_of_ble_eq_true rfl, Nat.le_of_ble_eq_true rfl⟩ ml_X9_134 im_X4_waxOf se_X4_waxOf (by rw [kv22]; rfl) rfl rfl rfl (Nat.le_of_ble_eq_true rfl) ⟨Nat.zero_le _, Nat.zero_le _⟩ (fun r35 σ36 hpo34 hok37 => ?_)
                obtain ⟨rfl, ⟨vu38, rfl, hvu38⟩⟩ := hpo34
                refine sv_same (st2 := [sv_i vu38, sv_i Xg30_l6]) (lv2 := [(4, sv_i ar4), (5, sv_r v22), (6, sv_i Xg30_l6), (7, sv_i Xg30_l7)]) rfl rfl ?_
                refine sv_go C.1 C.2.1 [(.iadd, 1), (.istore 6, 2), (.iinc 7 1, 3)] (pc' := 75) (by decide +kernel) rfl (lv' := [(4, sv_i ar4), (5, sv_r v22), (6, sv_i (Xg30_l6 + vu38)), (7, sv_i (Xg30_l7 + 1))]) (st' := []) rfl ?_
                refine sv_goto C.1 C.2.1 (off := (-22)) (tgt := 53) (by decide +kernel) (by decide) ?_
                obtain ⟨w39, hw39, ew39⟩ := sv_wr (Xg30_l6 + vu38)
                refine sv_sameD (st2 := []) (lv2 := [(4, sv_i ar4), (5, sv_r v22), (6, sv_i w39), (7, sv_i (Xg30_l7 + 1))]) (by simp only [List.map_cons, List.map_nil, sv_den_i, ew39]) (by simp only [sv_lm, List.map_cons, List.map_nil, sv_den_i, ew39]) ?_
                exact ih32 w39 (Xg30_l7 + 1) ⟨by omega, by omega⟩ ⟨by omega, by omega⟩ (by omega)
          refine sv_pick [4, 5, 6, 7] (lv2 := [(4, sv_i ar4), (5, sv_r v22), (6, sv_i 0), (7, sv_i ar3)]) rfl ?_
          exact L31 (((366 - ar3 : Int)).toNat + 1) 0 ar3 ⟨by omega, by omega⟩ ⟨by omega, by omega⟩ (by omega)
        · refine sv_go C.1 C.2.1 [(.bipush (-2), 2)] (pc' := 32) (by decide +kernel) rfl (lv' := [(0, sv_r a), (1, sv_i ar1), (2, sv_i ar2), (3, sv_i ar3), (4, sv_i ar4)]) (st' := [sv_i ((-2))]) rfl ?_
          exact sv_iret C hr (by decide +kernel) hok17 (⟨⟨_, rfl, ⟨by omega, by omega⟩⟩, hI, hF⟩)
      · have hn19 := dy_lp_in ar2
        refine sv_same (st2 := [sv_i 0]) (lv2 := [(0, sv_r a), (1, sv_i ar1), (2, sv_i ar2), (3, sv_i ar3), (4, sv_i ar4)]) rfl rfl ?_
        refine sv_if_t C.1 C.2.1 (cnd := .eq) (off := 9) (tgt := 30) (by decide +kernel) (by decide) ⟨by omega, by omega⟩ (show 0 = 0 by omega) ?_
        refine sv_go C.1 C.2.1 [(.bipush (-2), 2)] (pc' := 32) (by decide +kernel) rfl (lv' := [(0, sv_r a), (1, sv_i ar1), (2, sv_i ar2), (3, sv_i ar3), (4, sv_i ar4)]) (st' := [sv_i ((-2))]) rfl ?_
        exact sv_iret C hr (by decide +kernel) hok17 (⟨⟨_, rfl, ⟨by omega, by omega⟩⟩, hI, hF⟩)
    · have hn13 := dy_lp_in ar2
      refine sv_same (st2 := [sv_i 0]) (lv2 := [(0, sv_r a), (1, sv_i ar1), (2, sv_i ar2), (3, sv_i ar3), (4, sv_i ar4)]) rfl rfl ?_
      refine sv_if_t C.1 C.2.1 (cnd := .eq) (off := 18) (tgt := 30) (by decide +kernel) (by decide) ⟨by omega, by omega⟩ (show 0 = 0 by omega) ?_
      refine sv_go C.1 C.2.1 [(.bipush (-2), 2)] (pc' := 32) (by decide +kernel) rfl (lv' := [(0, sv_r a), (1, sv_i ar1), (2, sv_i ar2), (3, sv_i ar3), (4, sv_i ar4)]) (st' := [sv_i ((-2))]) rfl ?_
      exact sv_iret C hr (by decide +kernel) hok11 (⟨⟨_, rfl, ⟨by omega, by omega⟩⟩, hI, hF⟩)

theorem ml_X9_137 : Cond.methodLink RX9 137 yX9_isRank ∈ lw_good := sv_mem 803 (by decide +kernel) rfl
theorem ml_X9_140 : Cond.methodLink RX9 140 yJ9_min_7cf53 ∈ lw_good := sv_mem 804 (by decide +kernel) rfl
theorem ml_X9_145 : Cond.methodLink RX9 145 yX4_firstHeld ∈ lw_good := sv_mem 807 (by decide +kernel) rfl
theorem co_X4_firstHeld : Cond.code yX4_firstHeld cX4_firstHeld 6 (some .int) ∈ lw_good := sv_mem 810 (by decide +kernel) rfl
theorem im_X4_firstHeld : Cond.instanceMethod yX4_firstHeld ∈ lw_good := sv_mem 808 (by decide +kernel) rfl
theorem se_X4_firstHeld : Cond.selects RX4 yX4_firstHeld yX4_firstHeld ∈ lw_good := sv_mem 809 (by decide +kernel) rfl
set_option maxHeartbeats 4000000 in
set_option maxRecDepth 100000 in
theorem sf_X9_next (l : Launch) (g : sv_G) (A : Nat → Prop) (ty : Nat → Nat) (σ : Nat → Nat → Int) (hok : sv_ok ty σ) (hTA : ∀ q, ty q ≠ 0 → A q) (hI : sv_inv sp_1 ty σ) (a : Nat) (k_a : ty a = 1) (ar1 : Int) (h_ar1 : (-2147483648) ≤ ar1 ∧ ar1 ≤ 2147483647) (ar2 : Int) (h_ar2 : (-2147483648) ≤ ar2 ∧ ar2 ≤ 2147483647) (ar3 : Int) (h_ar3 : (-2147483648) ≤ ar3 ∧ ar3 ≤ 2147483647) (ar4 : Int) (h_ar4 : (-2147483648) ≤ ar4 ∧ ar4 ≤ 2147483647) : sv_M l yX9_next cX9_next 9 (some .int) { frames := 6, cells := 0, slots := 0, locals := 134 } g A ty σ [sv_r a, sv_i ar1, sv_i ar2, sv_i ar3, sv_i ar4] (fun r σ' => (∃ rv : Int, r = [sv_i rv] ∧ ((-2147483648) ≤ rv ∧ rv ≤ 2147483647)) ∧ sv_inv sp_1 ty σ' ∧ sv_ofx [(4, 7), (4, 8), (4, 9), (4, 10)] [24, 25, 26, 27, 28, 29] ty σ σ') := by
  refine sv_enter (by decide) (Nat.le_of_ble_eq_true rfl) ?_
  intro p e s m args below meth c C hr
  have C : sv_C g A RX9 cX9_next 9 p s m args meth c := C
  have hr : meth.sig.returnType = (some .int) := hr
  have hF : sv_ofx [(4, 7), (4, 8), (4, 9), (4, 10)] [24, 25, 26, 27, 28, 29] ty σ σ := sv_ofx.rf
  refine sv_same (st2 := []) (lv2 := [(0, sv_r a), (1, sv_i ar1), (2, sv_i ar2), (3, sv_i ar3), (4, sv_i ar4)]) rfl rfl ?_
  refine sv_go C.1 C.2.1 [(.iload_n 1, 1)] (pc' := 1) (by decide +kernel) rfl (lv' := [(0, sv_r a), (1, sv_i ar1), (2, sv_i ar2), (3, sv_i ar3), (4, sv_i ar4)]) (st' := [sv_i ar1]) rfl ?_
  refine sv_cs C (index := 59) (k := 1) (rest := []) (by decide +kernel) (sf_X9_isPlace l g A ty σ hok hTA hI (ar1) ⟨by omega, by omega⟩) ⟨co_X9_isPlace, in_X9, ⟨by decide, by decide, by decide +kernel⟩, Nat.le_of_ble_eq_true rfl, Nat.le_of_ble_eq_true rfl⟩ ml_X9_59 st_X9_isPlace rfl rfl (Nat.le_of_ble_eq_true rfl) ⟨Nat.zero_le _, Nat.zero_le _⟩ (fun r2 σ3 hpo1 hok4 => ?_)
  obtain ⟨rfl, ⟨vu5, rfl, hvu5, ivu5_0⟩⟩ := hpo1
  refine sv_same (st2 := [sv_i vu5]) (lv2 := [(0, sv_r a), (1, sv_i ar1), (2, sv_i ar2), (3, sv_i ar3), (4, sv_i ar4)]) rfl rfl ?_
  refine sv_if C.1 C.2.1 (cnd := .eq) (off := 19) (tgt := 23) (by decide +kernel) (by decide) ⟨by omega, by omega⟩ (fun (h6 : vu5 = 0) => ?_) (fun (h6 : ¬ (vu5 = 0)) => ?_)
  · refine sv_go C.1 C.2.1 [(.bipush (-2), 2)] (pc' := 25) (by decide +kernel) rfl (lv' := [(0, sv_r a), (1, sv_i ar1), (2, sv_i ar2), (3, sv_i ar3), (4, sv_i ar4)]) (st' := [sv_i ((-2))]) rfl ?_
    exact sv_iret C hr (by decide +kernel) hok4 (⟨⟨_, rfl, ⟨by omega, by omega⟩⟩, hI, hF⟩)
  · have hp7 := ivu5_0 (by omega) (by omega)
    refine sv_go C.1 C.2.1 [(.iload_n 2, 1), (.iload_n 3, 1)] (pc' := 9) (by decide +kernel) rfl (lv' := [(0, sv_r a), (1, sv_i ar1), (2, sv_i ar2), (3, sv_i ar3), (4, sv_i ar4)]) (st' := [sv_i ar3, sv_i ar2]) rfl ?_
    refine sv_cs C (index := 105) (k := 2) (rest := []) (by decide +kernel) (ct_X2_isDay l g A ty σ hok4 (ar2) ⟨by omega, by omega⟩ (ar3) ⟨by omega, by omega⟩) ⟨co_X2_isDay, in_X2, ⟨by decide, by decide, by decide +kernel⟩, Nat.le_of_ble_eq_true rfl, Nat.le_of_ble_eq_true rfl⟩ ml_X9_105 st_X2_isDay rfl rfl (Nat.le_of_ble_eq_true rfl) ⟨Nat.zero_le _, Nat.zero_le _⟩ (fun r9 σ10 hpo8 hok11 => ?_)
    obtain ⟨rfl, ⟨h12, rfl⟩ | ⟨h12, rfl⟩⟩ := hpo8
    · have hn13 := dy_lp_in ar2
      refine sv_same (st2 := [sv_i 1]) (lv2 := [(0, sv_r a), (1, sv_i ar1), (2, sv_i ar2), (3, sv_i ar3), (4, sv_i ar4)]) rfl rfl ?_
      refine sv_if_f C.1 C.2.1 (cnd := .eq) (off := 11) (tgt := 23) (by decide +kernel) (by decide) ⟨by omega, by omega⟩ (show ¬ (1 = 0) by omega) ?_
      refine sv_go C.1 C.2.1 [(.iload 4, 2)] (pc' := 17) (by decide +kernel) rfl (lv' := [(0, sv_r a), (1, sv_i ar1), (2, sv_i ar2), (3, sv_i ar3), (4, sv_i ar4)]) (st' := [sv_i ar4]) rfl ?_
      refine sv_cs C (index := 137) (k := 1) (rest := []) (by decide +kernel) (sf_X9_isRank l g A ty σ hok11 hTA hI (ar4) ⟨by omega, by omega⟩) ⟨co_X9_isRank, in_X9, ⟨by decide, by decide, by decide +kernel⟩, Nat.le_of_ble_eq_true rfl, Nat.le_of_ble_eq_true rfl⟩ ml_X9_137 st_X9_isRank rfl rfl (Nat.le_of_ble_eq_true rfl) ⟨Nat.zero_le _, Nat.zero_le _⟩ (fun r15 σ16 hpo14 hok17 => ?_)
      obtain ⟨rfl, ⟨vu18, rfl, hvu18, ivu18_0⟩⟩ := hpo14
      refine sv_same (st2 := [sv_i vu18]) (lv2 := [(0, sv_r a), (1, sv_i ar1), (2, sv_i ar2), (3, sv_i ar3), (4, sv_i ar4)]) rfl rfl ?_
      refine sv_if C.1 C.2.1 (cnd := .ne) (off := 6) (tgt := 26) (by decide +kernel) (by decide) ⟨by omega, by omega⟩ (fun (h19 : vu18 ≠ 0) => ?_) (fun (h19 : ¬ (vu18 ≠ 0)) => ?_)
      · have hp20 := ivu18_0 (by omega) (by omega)
        refine sv_go C.1 C.2.1 [(.aload_n 0, 1)] (pc' := 27) (by decide +kernel) rfl (lv' := [(0, sv_r a), (1, sv_i ar1), (2, sv_i ar2), (3, sv_i ar3), (4, sv_i ar4)]) (st' := [sv_r a]) rfl ?_
        obtain ⟨v21, ev21, kv21⟩ := hI.ref (k := 2) k_a rfl
        refine sv_gf C (index := 25) (ci := 8) (k := 2) (r := (RX9, TX9, 6)) (v := sv_r v21) (by decide +kernel) (by rw [k_a]; rfl) rfl (by decide) fl_X9_25 (congrArg sv_a ev21) ?_
        refine sv_go C.1 C.2.1 [(.iload_n 1, 1)] (pc' := 31) (by decide +kernel) rfl (lv' := [(0, sv_r a), (1, sv_i ar1), (2, sv_i ar2), (3, sv_i ar3), (4, sv_i ar4)]) (st' := [sv_i ar1, sv_r v21]) rfl ?_
        refine sv_aa C (N := "SaintsRoad$Place") (by decide) (n := 4) (by decide +kernel) (by rw [kv21]; rfl) (by decide) (by omega) (by omega) ?_
        obtain ⟨v22, ev22, kv22⟩ := hI.ref (k := (ar1 : Int).toNat) kv21 (by first | rfl | (show (if _ then _ else _) = _; rw [if_pos (by omega)]))
        rw [ev22]
        refine sv_go C.1 C.2.1 [(.astore 5, 2), (.sipush 2000, 3), (.iload_n 2, 1), (.bipush 30, 2), (.iadd, 1), (.iconst 1, 1), (.isub, 1)] (pc' := 43) (by decide +kernel) rfl (lv' := [(0, sv_r a), (1, sv_i ar1), (2, sv_i ar2), (3, sv_i ar3), (4, sv_i ar4), (5, sv_r v22)]) (st' := [sv_i ((ar2 + 30) - 1), sv_i 2000]) rfl ?_
        refine sv_min C (index := 140) (by decide +kernel) ml_X9_140 ⟨by omega, by omega⟩ ⟨by omega, by omega⟩ (Nat.le_of_ble_eq_true rfl) (Nat.le_of_ble_eq_true rfl) ⟨Nat.zero_le _, Nat.zero_le _⟩ ?_
        obtain ⟨mm23, hmm23⟩ : ∃ q : Int, q = (if ((ar2 + 30) - 1 : Int) < 2000 then (ar2 + 30) - 1 else 2000) := ⟨_, rfl⟩
        refine sv_same (st2 := [sv_i mm23]) (lv2 := [(0, sv_r a), (1, sv_i ar1), (2, sv_i ar2), (3, sv_i ar3), (4, sv_i ar4), (5, sv_r v22)]) (by rw [hmm23]) rfl ?_
        refine sv_go C.1 C.2.1 [(.istore 6, 2), (.iload_n 2, 1), (.istore 7, 2)] (pc' := 51) (by decide +kernel) rfl (lv' := [(0, sv_r a), (1, sv_i ar1), (2, sv_i ar2), (3, sv_i ar3), (4, sv_i ar4), (5, sv_r v22), (6, sv_i mm23), (7, sv_i ar2)]) (st' := []) rfl ?_
        have L26 : ∀ (n : Nat) (Xg24_l7 : Int) (σ25 : Nat → Nat → Int), (1 ≤ Xg24_l7 ∧ Xg24_l7 ≤ 2001) → (sv_ok ty σ25) → (sv_inv sp_1 ty σ25) → (sv_ofx [(4, 7), (4, 8), (4, 9), (4, 10)] [24, 25, 26, 27, 28, 29] ty σ σ25) → (σ25 a 2 = (v21 : Int) + 1) → (σ25 v21 (ar1 : Int).toNat = (v22 : Int) + 1) → (2001 - Xg24_l7) < (n : Int) → sv_E p l e { frames := 6, cells := 0, slots := 0, locals := 134 } s m args below meth c 9 g A ty (fun r σ' => (∃ rv : Int, r = [sv_i rv] ∧ ((-2147483648) ≤ rv ∧ rv ≤ 2147483647)) ∧ sv_inv sp_1 ty σ' ∧ sv_ofx [(4, 7), (4, 8), (4, 9), (4, 10)] [24, 25, 26, 27, 28, 29] ty σ σ') σ25 51 [(2, sv_i ar2), (3, sv_i ar3), (4, sv_i ar4), (5, sv_r v22), (6, sv_i mm23), (7, sv_i Xg24_l7)] [] := by
          intro n
          induction n with
          | zero => intro Xg24_l7 σ25 hXg24_l7 okσ25 Iσ25 Fσ25 eσ25_0 eσ25_1 hmu; exact absurd hmu (by omega)
          | succ n ih27 =>
            intro Xg24_l7 σ25 hXg24_l7 okσ25 Iσ25 Fσ25 eσ25_0 eσ25_1 hmu
            refine sv_go C.1 C.2.1 [(.iload 7, 2), (.iload 6, 2)] (pc' := 55) (by decide +kernel) rfl (lv' := [(2, sv_i ar2), (3, sv_i ar3), (4, sv_i ar4), (5, sv_r v22), (6, sv_i mm23), (7, sv_i Xg24_l7)]) (st' := [sv_i mm23, sv_i Xg24_l7]) rfl ?_
            refine sv_icmp C.1 C.2.1 (cnd := .gt) (off := 51) (tgt := 106) (by decide +kernel) (by decide) ⟨by omega, by omega⟩ ⟨by omega, by omega⟩ (fun (h28 : mm23 < Xg24_l7) => ?_) (fun (h28 : ¬ (mm23 < Xg24_l7)) => ?_)
            · refine sv_go C.1 C.2.1 [(.iconst (-1), 1)] (pc' := 107) (by decide +kernel) rfl (lv' := [(2, sv_i ar2), (3, sv_i ar3), (4, sv_i ar4), (5, sv_r v22), (6, sv_i mm23), (7, sv_i Xg24_l7)]) (st' := [sv_i ((-1))]) rfl ?_
              exact sv_iret C hr (by decide +kernel) okσ25 (⟨⟨_, rfl, ⟨by omega, by omega⟩⟩, Iσ25, Fσ25⟩)
            · refine sv_go C.1 C.2.1 [(.aload 5, 2), (.iload 7, 2)] (pc' := 62) (by decide +kernel) rfl (lv' := [(2, sv_i ar2), (3, sv_i ar3), (4, sv_i ar4), (5, sv_r v22), (6, sv_i mm23), (7, sv_i Xg24_l7)]) (st' := [sv_i Xg24_l7, sv_r v22]) rfl ?_
              refine sv_cv C (index := 118) (k := 1) (rest := []) (ci := 3) (r := (RX4, TX4, 11)) (by decide +kernel) (sf_X4_settle l g A ty σ25 okσ25 hTA Iσ25 v22 kv22 (Xg24_l7) ⟨by omega, by omega⟩) ⟨co_X4_settle, in_X4, ⟨by decide, by decide, by decide +kernel⟩, Nat.le_of_ble_eq_true rfl, Nat.le_of_ble_eq_true rfl⟩ ml_X9_118 im_X4_settle se_X4_settle (by rw [kv22]; rfl) rfl rfl rfl (Nat.le_of_ble_eq_true rfl) ⟨Nat.zero_le _, Nat.zero_le _⟩ (fun r30 σ31 hpo29 hok32 => ?_)
              obtain ⟨rfl, hIu33, hFu33⟩ := hpo29
              have hGu33 := Fσ25.tr hFu33 (by decide) (by decide)
              have t34 : σ31 a 2 = (v21 : Int) + 1 := (hFu33.at k_a (by decide) (by decide)).trans eσ25_0
              have t35 : σ31 v21 (ar1 : Int).toNat = (v22 : Int) + 1 := (hFu33.atA kv21 (by decide) (by decide)).trans eσ25_1
              refine sv_same (st2 := []) (lv2 := [(2, sv_i ar2), (3, sv_i ar3), (4, sv_i ar4), (5, sv_r v22), (6, sv_i mm23), (7, sv_i Xg24_l7)]) rfl rfl ?_
              refine sv_go C.1 C.2.1 [(.aload 5, 2), (.iload 7, 2), (.iload_n 2, 1)] (pc' := 70) (by decide +kernel) rfl (lv' := [(2, sv_i ar2), (3, sv_i ar3), (4, sv_i ar4), (5, sv_r v22), (6, sv_i mm23), (7, sv_i Xg24_l7)]) (st' := [sv_i ar2, sv_i Xg24_l7, sv_r v22]) rfl ?_
              have J38 : ∀ (Jg37_s0 : Int), (0 ≤ Jg37_s0 ∧ Jg37_s0 ≤ 365) → sv_E p l e { frames := 6, cells := 0, slots := 0, locals := 134 } s m args below meth c 9 g A ty (fun r σ' => (∃ rv : Int, r = [sv_i rv] ∧ ((-2147483648) ≤ rv ∧ rv ≤ 2147483647)) ∧ sv_inv sp_1 ty σ' ∧ sv_ofx [(4, 7), (4, 8), (4, 9), (4, 10)] [24, 25, 26, 27, 28, 29] ty σ σ') σ31 78 [(2, sv_i ar2), (3, sv_i ar3), (4, sv_i ar4), (5, sv_r v22), (6, sv_i mm23), (7, sv_i Xg24_l7)] [sv_i Jg37_s0, sv_r v22] := by
                intro Jg37_s0 hJg37_s0
                refine sv_go C.1 C.2.1 [(.iload 4, 2)] (pc' := 80) (by decide +kernel) rfl (lv' := [(2, sv_i ar2), (3, sv_i ar3), (4, sv_i ar4), (5, sv_r v22), (6, sv_i mm23), (7, sv_i Xg24_l7)]) (st' := [sv_i ar4, sv_i Jg37_s0, sv_r v22]) rfl ?_
                refine sv_cv C (index := 145) (k := 2) (rest := []) (ci := 3) (r := (RX4, TX4, 11)) (by decide +kernel) (sf_X4_firstHeld l g A ty σ31 hok32 hTA hIu33 v22 kv22 (Jg37_s0) ⟨by omega, by omega⟩ (ar4) ⟨by omega, by omega⟩) ⟨co_X4_firstHeld, in_X4, ⟨by decide, by decide, by decide +kernel⟩, Nat.le_of_ble_eq_true rfl, Nat.le_of_ble_eq_true rfl⟩ ml_X9_145 im_X4_firstHeld se_X4_firstHeld (by rw [kv22]; rfl) rfl rfl rfl (Nat.le_of_ble_eq_true rfl) ⟨Nat.zero_le _, Nat.zero_le _⟩ (fun r40 σ41 hpo39 hok42 => ?_)
                obtain ⟨rfl, ⟨vu43, rfl, hvu43⟩⟩ := hpo39
                refine sv_same (st2 := [sv_i vu43]) (lv2 := [(2, sv_i ar2), (3, sv_i ar3), (4, sv_i ar4), (5, sv_r v22), (6, sv_i mm23), (7, sv_i Xg24_l7)]) rfl rfl ?_
                refine sv_go C.1 C.2.1 [(.istore 8, 2), (.iload 8, 2)] (pc' := 87) (by decide +kernel) rfl (lv' := [(2, sv_i ar2), (3, sv_i ar3), (4, sv_i ar4), (5, sv_r v22), (6, sv_i mm23), (7, sv_i Xg24_l7), (8, sv_i vu43)]) (st' := [sv_i vu43]) rfl ?_
                refine sv_if C.1 C.2.1 (cnd := .lt) (off := 13) (tgt := 100) (by decide +kernel) (by decide) ⟨by omega, by omega⟩ (fun (h44 : vu43 < 0) => ?_) (fun (h44 : ¬ (vu43 < 0)) => ?_)
                · refine sv_go C.1 C.2.1 [(.iinc 7 1, 3)] (pc' := 103) (by decide +kernel) rfl (lv' := [(2, sv_i ar2), (3, sv_i ar3), (4, sv_i ar4), (5, sv_r v22), (6, sv_i mm23), (7, sv_i (Xg24_l7 + 1)), (8, sv_i vu43)]) (st' := []) rfl ?_
                  refine sv_goto C.1 C.2.1 (off := (-52)) (tgt := 51) (by decide +kernel) (by decide) ?_
                  refine sv_pick [0, 1, 2, 3, 4, 5] (lv2 := [(2, sv_i ar2), (3, sv_i ar3), (4, sv_i ar4), (5, sv_r v22), (6, sv_i mm23), (7, sv_i (Xg24_l7 + 1))]) rfl ?_
                  exact ih27 (Xg24_l7 + 1) σ31 ⟨by omega, by omega⟩ hok42 hIu33 hGu33 t34 t35 (by omega)
                · refine sv_go C.1 C.2.1 [(.sipush 1000, 3), (.iload 7, 2), (.imul, 1), (.iload 8, 2), (.iadd, 1)] (pc' := 99) (by decide +kernel) rfl (lv' := [(2, sv_i ar2), (3, sv_i ar3), (4, sv_i ar4), (5, sv_r v22), (6, sv_i mm23), (7, sv_i Xg24_l7), (8, sv_i vu43)]) (st' := [sv_i ((1000 * Xg24_l7) + vu43)]) rfl ?_
                  obtain ⟨w45, hw45, ew45⟩ := sv_wr ((1000 * Xg24_l7) + vu43)
                  refine sv_sameD (st2 := [sv_i w45]) (lv2 := [(2, sv_i ar2), (3, sv_i ar3), (4, sv_i ar4), (5, sv_r v22), (6, sv_i mm23), (7, sv_i Xg24_l7), (8, sv_i vu43)]) (by simp only [List.map_cons, List.map_nil, sv_den_i, ew45]) rfl ?_
                  exact sv_iret C hr (by decide +kernel) hok42 (⟨⟨_, rfl, ⟨by omega, by omega⟩⟩, hIu33, hGu33⟩)
              refine sv_icmp C.1 C.2.1 (cnd := .ne) (off := 7) (tgt := 77) (by decide +kernel) (by decide) ⟨by omega, by omega⟩ ⟨by omega, by omega⟩ (fun (h36 : Xg24_l7 ≠ ar2) => ?_) (fun (h36 : ¬ (Xg24_l7 ≠ ar2)) => ?_)
              · refine sv_go C.1 C.2.1 [(.iconst 0, 1)] (pc' := 78) (by decide +kernel) rfl (lv' := [(2, sv_i ar2), (3, sv_i ar3), (4, sv_i ar4), (5, sv_r v22), (6, sv_i mm23), (7, sv_i Xg24_l7)]) (st' := [sv_i 0, sv_r v22]) rfl ?_
                exact J38 0 ⟨by omega, by omega⟩
              · refine sv_go C.1 C.2.1 [(.iload_n 3, 1)] (pc' := 74) (by decide +kernel) rfl (lv' := [(2, sv_i ar2), (3, sv_i ar3), (4, sv_i ar4), (5, sv_r v22), (6, sv_i mm23), (7, sv_i Xg24_l7)]) (st' := [sv_i ar3, sv_r v22]) rfl ?_
                refine sv_goto C.1 C.2.1 (off := 4) (tgt := 78) (by decide +kernel) (by decide) ?_
                exact J38 ar3 ⟨by omega, by omega⟩
        refine sv_pick [2, 3, 4, 5, 6, 7] (lv2 := [(2, sv_i ar2), (3, sv_i ar3), (4, sv_i ar4), (5, sv_r v22), (6, sv_i mm23), (7, sv_i ar2)]) rfl ?_
        exact L26 (((2001 - ar2 : Int)).toNat + 1) ar2 σ ⟨by omega, by omega⟩ hok17 hI hF ev21 ev22 (by omega)
      · refine sv_go C.1 C.2.1 [(.bipush (-2), 2)] (pc' := 25) (by decide +kernel) rfl (lv' := [(0, sv_r a), (1, sv_i ar1), (2, sv_i ar2), (3, sv_i ar3), (4, sv_i ar4)]) (st' := [sv_i ((-2))]) rfl ?_
        exact sv_iret C hr (by decide +kernel) hok17 (⟨⟨_, rfl, ⟨by omega, by omega⟩⟩, hI, hF⟩)
    · have hn13 := dy_lp_in ar2
      refine sv_same (st2 := [sv_i 0]) (lv2 := [(0, sv_r a), (1, sv_i ar1), (2, sv_i ar2), (3, sv_i ar3), (4, sv_i ar4)]) rfl rfl ?_
      refine sv_if_t C.1 C.2.1 (cnd := .eq) (off := 11) (tgt := 23) (by decide +kernel) (by decide) ⟨by omega, by omega⟩ (show 0 = 0 by omega) ?_
      refine sv_go C.1 C.2.1 [(.bipush (-2), 2)] (pc' := 25) (by decide +kernel) rfl (lv' := [(0, sv_r a), (1, sv_i ar1), (2, sv_i ar2), (3, sv_i ar3), (4, sv_i ar4)]) (st' := [sv_i ((-2))]) rfl ?_
      exact sv_iret C hr (by decide +kernel) hok11 (⟨⟨_, rfl, ⟨by omega, by omega⟩⟩, hI, hF⟩)

theorem ml_X9_148 : Cond.methodLink RX9 148 yX2_length ∈ lw_good := sv_mem 815 (by decide +kernel) rfl
theorem ml_X9_150 : Cond.methodLink RX9 150 yX4_isAlike ∈ lw_good := sv_mem 816 (by decide +kernel) rfl
theorem co_X4_isAlike : Cond.code yX4_isAlike cX4_isAlike 7 (some .boolean) ∈ lw_good := sv_mem 819 (by decide +kernel) rfl
theorem im_X4_isAlike : Cond.instanceMethod yX4_isAlike ∈ lw_good := sv_mem 817 (by decide +kernel) rfl
theorem se_X4_isAlike : Cond.selects RX4 yX4_isAlike yX4_isAlike ∈ lw_good := sv_mem 818 (by decide +kernel) rfl
set_option maxHeartbeats 4000000 in
set_option maxRecDepth 100000 in
theorem sf_X9_unlike (l : Launch) (g : sv_G) (A : Nat → Prop) (ty : Nat → Nat) (σ : Nat → Nat → Int) (hok : sv_ok ty σ) (hTA : ∀ q, ty q ≠ 0 → A q) (hI : sv_inv sp_1 ty σ) (a : Nat) (k_a : ty a = 1) (ar1 : Int) (h_ar1 : (-2147483648) ≤ ar1 ∧ ar1 ≤ 2147483647) (ar2 : Int) (h_ar2 : (-2147483648) ≤ ar2 ∧ ar2 ≤ 2147483647) (ar3 : Int) (h_ar3 : (-2147483648) ≤ ar3 ∧ ar3 ≤ 2147483647) : sv_M l yX9_unlike cX9_unlike 7 (some .int) { frames := 6, cells := 0, slots := 0, locals := 134 } g A ty σ [sv_r a, sv_i ar1, sv_i ar2, sv_i ar3] (fun r σ' => (∃ rv : Int, r = [sv_i rv] ∧ ((-2147483648) ≤ rv ∧ rv ≤ 2147483647)) ∧ sv_inv sp_1 ty σ' ∧ sv_ofx [(4, 7), (4, 8), (4, 9), (4, 10)] [24, 25, 26, 27, 28, 29] ty σ σ') := by
  refine sv_enter (by decide) (Nat.le_of_ble_eq_true rfl) ?_
  intro p e s m args below meth c C hr
  have C : sv_C g A RX9 cX9_unlike 7 p s m args meth c := C
  have hr : meth.sig.returnType = (some .int) := hr
  have hF : sv_ofx [(4, 7), (4, 8), (4, 9), (4, 10)] [24, 25, 26, 27, 28, 29] ty σ σ := sv_ofx.rf
  refine sv_same (st2 := []) (lv2 := [(0, sv_r a), (1, sv_i ar1), (2, sv_i ar2), (3, sv_i ar3)]) rfl rfl ?_
  refine sv_go C.1 C.2.1 [(.iload_n 1, 1)] (pc' := 1) (by decide +kernel) rfl (lv' := [(0, sv_r a), (1, sv_i ar1), (2, sv_i ar2), (3, sv_i ar3)]) (st' := [sv_i ar1]) rfl ?_
  refine sv_cs C (index := 59) (k := 1) (rest := []) (by decide +kernel) (sf_X9_isPlace l g A ty σ hok hTA hI (ar1) ⟨by omega, by omega⟩) ⟨co_X9_isPlace, in_X9, ⟨by decide, by decide, by decide +kernel⟩, Nat.le_of_ble_eq_true rfl, Nat.le_of_ble_eq_true rfl⟩ ml_X9_59 st_X9_isPlace rfl rfl (Nat.le_of_ble_eq_true rfl) ⟨Nat.zero_le _, Nat.zero_le _⟩ (fun r2 σ3 hpo1 hok4 => ?_)
  obtain ⟨rfl, ⟨vu5, rfl, hvu5, ivu5_0⟩⟩ := hpo1
  refine sv_same (st2 := [sv_i vu5]) (lv2 := [(0, sv_r a), (1, sv_i ar1), (2, sv_i ar2), (3, sv_i ar3)]) rfl rfl ?_
  refine sv_if C.1 C.2.1 (cnd := .eq) (off := 17) (tgt := 21) (by decide +kernel) (by decide) ⟨by omega, by omega⟩ (fun (h6 : vu5 = 0) => ?_) (fun (h6 : ¬ (vu5 = 0)) => ?_)
  · refine sv_go C.1 C.2.1 [(.bipush (-2), 2)] (pc' := 23) (by decide +kernel) rfl (lv' := [(0, sv_r a), (1, sv_i ar1), (2, sv_i ar2), (3, sv_i ar3)]) (st' := [sv_i ((-2))]) rfl ?_
    exact sv_iret C hr (by decide +kernel) hok4 (⟨⟨_, rfl, ⟨by omega, by omega⟩⟩, hI, hF⟩)
  · have hp7 := ivu5_0 (by omega) (by omega)
    refine sv_go C.1 C.2.1 [(.iload_n 2, 1)] (pc' := 8) (by decide +kernel) rfl (lv' := [(0, sv_r a), (1, sv_i ar1), (2, sv_i ar2), (3, sv_i ar3)]) (st' := [sv_i ar2]) rfl ?_
    refine sv_cs C (index := 59) (k := 1) (rest := []) (by decide +kernel) (sf_X9_isPlace l g A ty σ hok4 hTA hI (ar2) ⟨by omega, by omega⟩) ⟨co_X9_isPlace, in_X9, ⟨by decide, by decide, by decide +kernel⟩, Nat.le_of_ble_eq_true rfl, Nat.le_of_ble_eq_true rfl⟩ ml_X9_59 st_X9_isPlace rfl rfl (Nat.le_of_ble_eq_true rfl) ⟨Nat.zero_le _, Nat.zero_le _⟩ (fun r9 σ10 hpo8 hok11 => ?_)
    obtain ⟨rfl, ⟨vu12, rfl, hvu12, ivu12_0⟩⟩ := hpo8
    refine sv_same (st2 := [sv_i vu12]) (lv2 := [(0, sv_r a), (1, sv_i ar1), (2, sv_i ar2), (3, sv_i ar3)]) rfl rfl ?_
    refine sv_if C.1 C.2.1 (cnd := .eq) (off := 10) (tgt := 21) (by decide +kernel) (by decide) ⟨by omega, by omega⟩ (fun (h13 : vu12 = 0) => ?_) (fun (h13 : ¬ (vu12 = 0)) => ?_)
    · refine sv_go C.1 C.2.1 [(.bipush (-2), 2)] (pc' := 23) (by decide +kernel) rfl (lv' := [(0, sv_r a), (1, sv_i ar1), (2, sv_i ar2), (3, sv_i ar3)]) (st' := [sv_i ((-2))]) rfl ?_
      exact sv_iret C hr (by decide +kernel) hok11 (⟨⟨_, rfl, ⟨by omega, by omega⟩⟩, hI, hF⟩)
    · have hp14 := ivu12_0 (by omega) (by omega)
      refine sv_go C.1 C.2.1 [(.iload_n 3, 1)] (pc' := 15) (by decide +kernel) rfl (lv' := [(0, sv_r a), (1, sv_i ar1), (2, sv_i ar2), (3, sv_i ar3)]) (st' := [sv_i ar3]) rfl ?_
      refine sv_cs C (index := 97) (k := 1) (rest := []) (by decide +kernel) (ct_X2_isYear l g A ty σ hok11 (ar3) ⟨by omega, by omega⟩) ⟨co_X2_isYear, in_X2, ⟨by decide, by decide, by decide +kernel⟩, Nat.le_of_ble_eq_true rfl, Nat.le_of_ble_eq_true rfl⟩ ml_X9_97 st_X2_isYear rfl rfl (Nat.le_of_ble_eq_true rfl) ⟨Nat.zero_le _, Nat.zero_le _⟩ (fun r16 σ17 hpo15 hok18 => ?_)
      obtain ⟨rfl, ⟨h19, rfl⟩ | ⟨h19, rfl⟩⟩ := hpo15
      · refine sv_same (st2 := [sv_i 1]) (lv2 := [(0, sv_r a), (1, sv_i ar1), (2, sv_i ar2), (3, sv_i ar3)]) rfl rfl ?_
        refine sv_if_t C.1 C.2.1 (cnd := .ne) (off := 6) (tgt := 24) (by decide +kernel) (by decide) ⟨by omega, by omega⟩ (show 1 ≠ 0 by omega) ?_
        refine sv_go C.1 C.2.1 [(.aload_n 0, 1)] (pc' := 25) (by decide +kernel) rfl (lv' := [(0, sv_r a), (1, sv_i ar1), (2, sv_i ar2), (3, sv_i ar3)]) (st' := [sv_r a]) rfl ?_
        obtain ⟨v20, ev20, kv20⟩ := hI.ref (k := 2) k_a rfl
        refine sv_gf C (index := 25) (ci := 8) (k := 2) (r := (RX9, TX9, 6)) (v := sv_r v20) (by decide +kernel) (by rw [k_a]; rfl) rfl (by decide) fl_X9_25 (congrArg sv_a ev20) ?_
        refine sv_go C.1 C.2.1 [(.iload_n 1, 1)] (pc' := 29) (by decide +kernel) rfl (lv' := [(0, sv_r a), (1, sv_i ar1), (2, sv_i ar2), (3, sv_i ar3)]) (st' := [sv_i ar1, sv_r v20]) rfl ?_
        refine sv_aa C (N := "SaintsRoad$Place") (by decide) (n := 4) (by decide +kernel) (by rw [kv20]; rfl) (by decide) (by omega) (by omega) ?_
        obtain ⟨v21, ev21, kv21⟩ := hI.ref (k := (ar1 : Int).toNat) kv20 (by first | rfl | (show (if _ then _ else _) = _; rw [if_pos (by omega)]))
        rw [ev21]
        refine sv_go C.1 C.2.1 [(.iload_n 3, 1)] (pc' := 31) (by decide +kernel) rfl (lv' := [(0, sv_r a), (1, sv_i ar1), (2, sv_i ar2), (3, sv_i ar3)]) (st' := [sv_i ar3, sv_r v21]) rfl ?_
        refine sv_cv C (index := 118) (k := 1) (rest := []) (ci := 3) (r := (RX4, TX4, 11)) (by decide +kernel) (sf_X4_settle l g A ty σ hok18 hTA hI v21 kv21 (ar3) ⟨by omega, by omega⟩) ⟨co_X4_settle, in_X4, ⟨by decide, by decide, by decide +kernel⟩, Nat.le_of_ble_eq_true rfl, Nat.le_of_ble_eq_true rfl⟩ ml_X9_118 im_X4_settle se_X4_settle (by rw [kv21]; rfl) rfl rfl rfl (Nat.le_of_ble_eq_true rfl) ⟨Nat.zero_le _, Nat.zero_le _⟩ (fun r23 σ24 hpo22 hok25 => ?_)
        obtain ⟨rfl, hIu26, hFu26⟩ := hpo22
        have hGu26 := hF.tr hFu26 (by decide) (by decide)
        have t27 : σ24 a 2 = (v20 : Int) + 1 := (hFu26.at k_a (by decide) (by decide)).trans ev20
        have t28 : σ24 v20 (ar1 : Int).toNat = (v21 : Int) + 1 := (hFu26.atA kv20 (by decide) (by decide)).trans ev21
        refine sv_same (st2 := []) (lv2 := [(0, sv_r a), (1, sv_i ar1), (2, sv_i ar2), (3, sv_i ar3)]) rfl rfl ?_
        refine sv_go C.1 C.2.1 [(.aload_n 0, 1)] (pc' := 35) (by decide +kernel) rfl (lv' := [(0, sv_r a), (1, sv_i ar1), (2, sv_i ar2), (3, sv_i ar3)]) (st' := [sv_r a]) rfl ?_
        refine sv_gf C (index := 25) (ci := 8) (k := 2) (r := (RX9, TX9, 6)) (v := sv_r v20) (by decide +kernel) (by rw [k_a]; rfl) rfl (by decide) fl_X9_25 (congrArg sv_a t27) ?_
        refine sv_go C.1 C.2.1 [(.iload_n 2, 1)] (pc' := 39) (by decide +kernel) rfl (lv' := [(0, sv_r a), (1, sv_i ar1), (2, sv_i ar2), (3, sv_i ar3)]) (st' := [sv_i ar2, sv_r v20]) rfl ?_
        refine sv_aa C (N := "SaintsRoad$Place") (by decide) (n := 4) (by decide +kernel) (by rw [kv20]; rfl) (by decide) (by omega) (by omega) ?_
        obtain ⟨v29, ev29, kv29⟩ := hIu26.ref (k := (ar2 : Int).toNat) kv20 (by first | rfl | (show (if _ then _ else _) = _; rw [if_pos (by omega)]))
        rw [ev29]
        refine sv_go C.1 C.2.1 [(.iload_n 3, 1)] (pc' := 41) (by decide +kernel) rfl (lv' := [(0, sv_r a), (1, sv_i ar1), (2, sv_i ar2), (3, sv_i ar3)]) (st' := [sv_i ar3, sv_r v29]) rfl ?_
        refine sv_cv C (index := 118) (k := 1) (rest := []) (ci := 3) (r := (RX4, TX4, 11)) (by decide +kernel) (sf_X4_settle l g A ty σ24 hok25 hTA hIu26 v29 kv29 (ar3) ⟨by omega, by omega⟩) ⟨co_X4_settle, in_X4, ⟨by decide, by decide, by decide +kernel⟩, Nat.le_of_ble_eq_true rfl, Nat.le_of_ble_eq_true rfl⟩ ml_X9_118 im_X4_settle se_X4_settle (by rw [kv29]; rfl) rfl rfl rfl (Nat.le_of_ble_eq_true rfl) ⟨Nat.zero_le _, Nat.zero_le _⟩ (fun r31 σ32 hpo30 hok33 => ?_)
        obtain ⟨rfl, hIu34, hFu34⟩ := hpo30
        have hGu34 := hGu26.tr hFu34 (by decide) (by decide)
        have t35 : σ32 a 2 = (v20 : Int) + 1 := (hFu34.at k_a (by decide) (by decide)).trans t27
        have t36 : σ32 v20 (ar1 : Int).toNat = (v21 : Int) + 1 := (hFu34.atA kv20 (by decide) (by decide)).trans t28
        have t37 : σ32 v20 (ar2 : Int).toNat = (v29 : Int) + 1 := (hFu34.atA kv20 (by decide) (by decide)).trans ev29
        refine sv_same (st2 := []) (lv2 := [(0, sv_r a), (1, sv_i ar1), (2, sv_i ar2), (3, sv_i ar3)]) rfl rfl ?_
        refine sv_go C.1 C.2.1 [(.iload_n 3, 1)] (pc' := 45) (by decide +kernel) rfl (lv' := [(0, sv_r a), (1, sv_i ar1), (2, sv_i ar2), (3, sv_i ar3)]) (st' := [sv_i ar3]) rfl ?_
        refine sv_cs C (index := 148) (k := 1) (rest := []) (by decide +kernel) (ct_X2_length l g A ty σ32 hok33 (ar3) ⟨by omega, by omega⟩) ⟨co_X2_length, in_X2, ⟨by decide, by decide, by decide +kernel⟩, Nat.le_of_ble_eq_true rfl, Nat.le_of_ble_eq_true rfl⟩ ml_X9_148 st_X2_length rfl rfl (Nat.le_of_ble_eq_true rfl) ⟨Nat.zero_le _, Nat.zero_le _⟩ (fun r39 σ40 hpo38 hok41 => ?_)
        obtain ⟨rfl, rfl⟩ := hpo38
        have hn43 := dy_lp_in ar3
        refine sv_same (st2 := [sv_i (365 + dy_lp ar3)]) (lv2 := [(0, sv_r a), (1, sv_i ar1), (2, sv_i ar2), (3, sv_i ar3)]) rfl rfl ?_
        refine sv_go C.1 C.2.1 [(.istore 4, 2), (.iconst 0, 1), (.istore 5, 2), (.iconst 0, 1), (.istore 6, 2)] (pc' := 56) (by decide +kernel) rfl (lv' := [(0, sv_r a), (1, sv_i ar1), (2, sv_i ar2), (3, sv_i ar3), (4, sv_i (365 + dy_lp ar3)), (5, sv_i 0), (6, sv_i 0)]) (st' := []) rfl ?_
        have L45 : ∀ (n : Nat) (Xg44_l5 : Int) (Xg44_l6 : Int), ((-2147483648) ≤ Xg44_l5 ∧ Xg44_l5 ≤ 2147483647) → (0 ≤ Xg44_l6 ∧ Xg44_l6 ≤ 366) → (366 - Xg44_l6) < (n : Int) → sv_E p l e { frames := 6, cells := 0, slots := 0, locals := 134 } s m args below meth c 7 g A ty (fun r σ' => (∃ rv : Int, r = [sv_i rv] ∧ ((-2147483648) ≤ rv ∧ rv ≤ 2147483647)) ∧ sv_inv sp_1 ty σ' ∧ sv_ofx [(4, 7), (4, 8), (4, 9), (4, 10)] [24, 25, 26, 27, 28, 29] ty σ σ') σ32 56 [(0, sv_r a), (1, sv_i ar1), (2, sv_i ar2), (4, sv_i (365 + dy_lp ar3)), (5, sv_i Xg44_l5), (6, sv_i Xg44_l6)] [] := by
          intro n
          induction n with
          | zero => intro Xg44_l5 Xg44_l6 hXg44_l5 hXg44_l6 hmu; exact absurd hmu (by omega)
          | succ n ih46 =>
            intro Xg44_l5 Xg44_l6 hXg44_l5 hXg44_l6 hmu
            refine sv_go C.1 C.2.1 [(.iload 6, 2), (.iload 4, 2)] (pc' := 60) (by decide +kernel) rfl (lv' := [(0, sv_r a), (1, sv_i ar1), (2, sv_i ar2), (4, sv_i (365 + dy_lp ar3)), (5, sv_i Xg44_l5), (6, sv_i Xg44_l6)]) (st' := [sv_i (365 + dy_lp ar3), sv_i Xg44_l6]) rfl ?_
            refine sv_icmp C.1 C.2.1 (cnd := .ge) (off := 32) (tgt := 92) (by decide +kernel) (by decide) ⟨by omega, by omega⟩ ⟨by omega, by omega⟩ (fun (h47 : (365 + dy_lp ar3) ≤ Xg44_l6) => ?_) (fun (h47 : ¬ ((365 + dy_lp ar3) ≤ Xg44_l6)) => ?_)
            · refine sv_go C.1 C.2.1 [(.iload 5, 2)] (pc' := 94) (by decide +kernel) rfl (lv' := [(0, sv_r a), (1, sv_i ar1), (2, sv_i ar2), (4, sv_i (365 + dy_lp ar3)), (5, sv_i Xg44_l5), (6, sv_i Xg44_l6)]) (st' := [sv_i Xg44_l5]) rfl ?_
              exact sv_iret C hr (by decide +kernel) hok41 (⟨⟨_, rfl, ⟨by omega, by omega⟩⟩, hIu34, hGu34⟩)
            · refine sv_go C.1 C.2.1 [(.aload_n 0, 1)] (pc' := 64) (by decide +kernel) rfl (lv' := [(0, sv_r a), (1, sv_i ar1), (2, sv_i ar2), (4, sv_i (365 + dy_lp ar3)), (5, sv_i Xg44_l5), (6, sv_i Xg44_l6)]) (st' := [sv_r a]) rfl ?_
              refine sv_gf C (index := 25) (ci := 8) (k := 2) (r := (RX9, TX9, 6)) (v := sv_r v20) (by decide +kernel) (by rw [k_a]; rfl) rfl (by decide) fl_X9_25 (congrArg sv_a t35) ?_
              refine sv_go C.1 C.2.1 [(.iload_n 1, 1)] (pc' := 68) (by decide +kernel) rfl (lv' := [(0, sv_r a), (1, sv_i ar1), (2, sv_i ar2), (4, sv_i (365 + dy_lp ar3)), (5, sv_i Xg44_l5), (6, sv_i Xg44_l6)]) (st' := [sv_i ar1, sv_r v20]) rfl ?_
              refine sv_aa C (N := "SaintsRoad$Place") (by decide) (n := 4) (by decide +kernel) (by rw [kv20]; rfl) (by decide) (by omega) (by omega) ?_
              rw [t36]
              refine sv_go C.1 C.2.1 [(.aload_n 0, 1)] (pc' := 70) (by decide +kernel) rfl (lv' := [(0, sv_r a), (1, sv_i ar1), (2, sv_i ar2), (4, sv_i (365 + dy_lp ar3)), (5, sv_i Xg44_l5), (6, sv_i Xg44_l6)]) (st' := [sv_r a, sv_r v21]) rfl ?_
              refine sv_gf C (index := 25) (ci := 8) (k := 2) (r := (RX9, TX9, 6)) (v := sv_r v20) (by decide +kernel) (by rw [k_a]; rfl) rfl (by decide) fl_X9_25 (congrArg sv_a t35) ?_
              refine sv_go C.1 C.2.1 [(.iload_n 2, 1)] (pc' := 74) (by decide +kernel) rfl (lv' := [(0, sv_r a), (1, sv_i ar1), (2, sv_i ar2), (4, sv_i (365 + dy_lp ar3)), (5, sv_i Xg44_l5), (6, sv_i Xg44_l6)]) (st' := [sv_i ar2, sv_r v20, sv_r v21]) rfl ?_
              refine sv_aa C (N := "SaintsRoad$Place") (by decide) (n := 4) (by decide +kernel) (by rw [kv20]; rfl) (by decide) (by omega) (by omega) ?_
              rw [t37]
              refine sv_go C.1 C.2.1 [(.iload 6, 2)] (pc' := 77) (by decide +kernel) rfl (lv' := [(0, sv_r a), (1, sv_i ar1), (2, sv_i ar2), (4, sv_i (365 + dy_lp ar3)), (5, sv_i Xg44_l5), (6, sv_i Xg44_l6)]) (st' := [sv_i Xg44_l6, sv_r v29, sv_r v21]) rfl ?_
              refine sv_cv C (index := 150) (k := 2) (rest := []) (ci := 3) (r := (RX4, TX4, 11)) (by decide +kernel) (sf_X4_isAlike l g A ty σ32 hok41 hTA hIu34 v21 kv21 v29 kv29 (Xg44_l6) ⟨by omega, by omega⟩) ⟨co_X4_isAlike, in_X4, ⟨by decide, by decide, by decide +kernel⟩, Nat.le_of_ble_eq_true rfl, Nat.le_of_ble_eq_true rfl⟩ ml_X9_150 im_X4_isAlike se_X4_isAlike (by rw [kv21]; rfl) rfl rfl rfl (Nat.le_of_ble_eq_true rfl) ⟨Nat.zero_le _, Nat.zero_le _⟩ (fun r49 σ50 hpo48 hok51 => ?_)
              obtain ⟨rfl, ⟨vu52, rfl, hvu52⟩⟩ := hpo48
              refine sv_same (st2 := [sv_i vu52]) (lv2 := [(0, sv_r a), (1, sv_i ar1), (2, sv_i ar2), (4, sv_i (365 + dy_lp ar3)), (5, sv_i Xg44_l5), (6, sv_i Xg44_l6)]) rfl rfl ?_
              have J55 : ∀ (Jg54_l5 : Int), ((-2147483648) ≤ Jg54_l5 ∧ Jg54_l5 ≤ 2147483647) → sv_E p l e { frames := 6, cells := 0, slots := 0, locals := 134 } s m args below meth c 7 g A ty (fun r σ' => (∃ rv : Int, r = [sv_i rv] ∧ ((-2147483648) ≤ rv ∧ rv ≤ 2147483647)) ∧ sv_inv sp_1 ty σ' ∧ sv_ofx [(4, 7), (4, 8), (4, 9), (4, 10)] [24, 25, 26, 27, 28, 29] ty σ σ') σ32 86 [(0, sv_r a), (1, sv_i ar1), (2, sv_i ar2), (4, sv_i (365 + dy_lp ar3)), (5, sv_i Jg54_l5), (6, sv_i Xg44_l6)] [] := by
                intro Jg54_l5 hJg54_l5
                refine sv_go C.1 C.2.1 [(.iinc 6 1, 3)] (pc' := 89) (by decide +kernel) rfl (lv' := [(0, sv_r a), (1, sv_i ar1), (2, sv_i ar2), (4, sv_i (365 + dy_lp ar3)), (5, sv_i Jg54_l5), (6, sv_i (Xg44_l6 + 1))]) (st' := []) rfl ?_
                refine sv_goto C.1 C.2.1 (off := (-33)) (tgt := 56) (by decide +kernel) (by decide) ?_
                exact ih46 Jg54_l5 (Xg44_l6 + 1) ⟨by omega, by omega⟩ ⟨by omega, by omega⟩ (by omega)
              refine sv_if C.1 C.2.1 (cnd := .ne) (off := 6) (tgt := 86) (by decide +kernel) (by decide) ⟨by omega, by omega⟩ (fun (h53 : vu52 ≠ 0) => ?_) (fun (h53 : ¬ (vu52 ≠ 0)) => ?_)
              · exact J55 Xg44_l5 ⟨by omega, by omega⟩
              · refine sv_go C.1 C.2.1 [(.iinc 5 1, 3)] (pc' := 86) (by decide +kernel) rfl (lv' := [(0, sv_r a), (1, sv_i ar1), (2, sv_i ar2), (4, sv_i (365 + dy_lp ar3)), (5, sv_i (Xg44_l5 + 1)), (6, sv_i Xg44_l6)]) (st' := []) rfl ?_
                obtain ⟨w56, hw56, ew56⟩ := sv_wr (Xg44_l5 + 1)
                refine sv_sameD (st2 := []) (lv2 := [(0, sv_r a), (1, sv_i ar1), (2, sv_i ar2), (4, sv_i (365 + dy_lp ar3)), (5, sv_i w56), (6, sv_i Xg44_l6)]) (by simp only [List.map_cons, List.map_nil, sv_den_i, ew56]) (by simp only [sv_lm, List.map_cons, List.map_nil, sv_den_i, ew56]) ?_
                exact J55 w56 ⟨by omega, by omega⟩
        refine sv_pick [0, 1, 2, 4, 5, 6] (lv2 := [(0, sv_r a), (1, sv_i ar1), (2, sv_i ar2), (4, sv_i (365 + dy_lp ar3)), (5, sv_i 0), (6, sv_i 0)]) rfl ?_
        exact L45 (((366 - 0 : Int)).toNat + 1) 0 0 ⟨by omega, by omega⟩ ⟨by omega, by omega⟩ (by omega)
      · refine sv_same (st2 := [sv_i 0]) (lv2 := [(0, sv_r a), (1, sv_i ar1), (2, sv_i ar2), (3, sv_i ar3)]) rfl rfl ?_
        refine sv_if_f C.1 C.2.1 (cnd := .ne) (off := 6) (tgt := 24) (by decide +kernel) (by decide) ⟨by omega, by omega⟩ (show ¬ (0 ≠ 0) by omega) ?_
        refine sv_go C.1 C.2.1 [(.bipush (-2), 2)] (pc' := 23) (by decide +kernel) rfl (lv' := [(0, sv_r a), (1, sv_i ar1), (2, sv_i ar2), (3, sv_i ar3)]) (st' := [sv_i ((-2))]) rfl ?_
        exact sv_iret C hr (by decide +kernel) hok18 (⟨⟨_, rfl, ⟨by omega, by omega⟩⟩, hI, hF⟩)

theorem ml_X9_154 : Cond.methodLink RX9 154 yX9_isBrotherhood ∈ lw_good := sv_mem 824 (by decide +kernel) rfl
theorem co_X9_isBrotherhood : Cond.code yX9_isBrotherhood cX9_isBrotherhood 1 (some .boolean) ∈ lw_good := sv_mem 826 (by decide +kernel) rfl
theorem st_X9_isBrotherhood : Cond.static yX9_isBrotherhood ∈ lw_good := sv_mem 825 (by decide +kernel) rfl
theorem fl_X9_33 : Cond.fieldLink RX9 33 "SaintsRoad" "brotherhoods" "LSaintsRoad$Brotherhoods;" ∈ lw_good := sv_mem 409 (by decide +kernel) rfl
theorem ml_X9_157 : Cond.methodLink RX9 157 yX0_setQuarrel ∈ lw_good := sv_mem 827 (by decide +kernel) rfl
theorem co_X0_setQuarrel : Cond.code yX0_setQuarrel cX0_setQuarrel 5 (some .boolean) ∈ lw_good := sv_mem 830 (by decide +kernel) rfl
theorem im_X0_setQuarrel : Cond.instanceMethod yX0_setQuarrel ∈ lw_good := sv_mem 828 (by decide +kernel) rfl
theorem se_X0_setQuarrel : Cond.selects RX0 yX0_setQuarrel yX0_setQuarrel ∈ lw_good := sv_mem 829 (by decide +kernel) rfl
set_option maxHeartbeats 4000000 in
set_option maxRecDepth 100000 in
theorem sf_X9_quarrel (l : Launch) (g : sv_G) (A : Nat → Prop) (ty : Nat → Nat) (σ : Nat → Nat → Int) (hok : sv_ok ty σ) (hTA : ∀ q, ty q ≠ 0 → A q) (hI : sv_inv sp_1 ty σ) (a : Nat) (k_a : ty a = 1) (ar1 : Int) (h_ar1 : (-2147483648) ≤ ar1 ∧ ar1 ≤ 2147483647) (ar2 : Int) (h_ar2 : (-2147483648) ≤ ar2 ∧ ar2 ≤ 2147483647) (on : Int) (h_on : 0 ≤ on ∧ on ≤ 1) : sv_M l yX9_quarrel cX9_quarrel 4 (some .int) { frames := 1, cells := 0, slots := 0, locals := 24 } g A ty σ [sv_r a, sv_i ar1, sv_i ar2, sv_i on] (fun r σ' => (∃ rv : Int, r = [sv_i rv] ∧ ((-2) ≤ rv ∧ rv ≤ 1)) ∧ sv_inv sp_1 ty σ' ∧ sv_ofx [(5, 1)] [31] ty σ σ') := by
  refine sv_enter (by decide) (Nat.le_of_ble_eq_true rfl) ?_
  intro p e s m args below meth c C hr
  have C : sv_C g A RX9 cX9_quarrel 4 p s m args meth c := C
  have hr : meth.sig.returnType = (some .int) := hr
  have hF : sv_ofx [(5, 1)] [31] ty σ σ := sv_ofx.rf
  refine sv_same (st2 := []) (lv2 := [(0, sv_r a), (1, sv_i ar1), (2, sv_i ar2), (3, sv_i on)]) rfl rfl ?_
  refine sv_go C.1 C.2.1 [(.iload_n 1, 1)] (pc' := 1) (by decide +kernel) rfl (lv' := [(0, sv_r a), (1, sv_i ar1), (2, sv_i ar2), (3, sv_i on)]) (st' := [sv_i ar1]) rfl ?_
  refine sv_cs C (index := 154) (k := 1) (rest := []) (by decide +kernel) (sf_X9_isBrotherhood l g A ty σ hok hTA hI (ar1) ⟨by omega, by omega⟩) ⟨co_X9_isBrotherhood, in_X9, ⟨by decide, by decide, by decide +kernel⟩, Nat.le_of_ble_eq_true rfl, Nat.le_of_ble_eq_true rfl⟩ ml_X9_154 st_X9_isBrotherhood rfl rfl (Nat.le_of_ble_eq_true rfl) ⟨Nat.zero_le _, Nat.zero_le _⟩ (fun r2 σ3 hpo1 hok4 => ?_)
  obtain ⟨rfl, ⟨vu5, rfl, hvu5, ivu5_0⟩⟩ := hpo1
  refine sv_same (st2 := [sv_i vu5]) (lv2 := [(0, sv_r a), (1, sv_i ar1), (2, sv_i ar2), (3, sv_i on)]) rfl rfl ?_
  refine sv_if C.1 C.2.1 (cnd := .eq) (off := 15) (tgt := 19) (by decide +kernel) (by decide) ⟨by omega, by omega⟩ (fun (h6 : vu5 = 0) => ?_) (fun (h6 : ¬ (vu5 = 0)) => ?_)
  · refine sv_go C.1 C.2.1 [(.bipush (-2), 2)] (pc' := 21) (by decide +kernel) rfl (lv' := [(0, sv_r a), (1, sv_i ar1), (2, sv_i ar2), (3, sv_i on)]) (st' := [sv_i ((-2))]) rfl ?_
    exact sv_iret C hr (by decide +kernel) hok4 (⟨⟨_, rfl, ⟨by omega, by omega⟩⟩, hI, hF⟩)
  · have hp7 := ivu5_0 (by omega) (by omega)
    refine sv_go C.1 C.2.1 [(.iload_n 2, 1)] (pc' := 8) (by decide +kernel) rfl (lv' := [(0, sv_r a), (1, sv_i ar1), (2, sv_i ar2), (3, sv_i on)]) (st' := [sv_i ar2]) rfl ?_
    refine sv_cs C (index := 154) (k := 1) (rest := []) (by decide +kernel) (sf_X9_isBrotherhood l g A ty σ hok4 hTA hI (ar2) ⟨by omega, by omega⟩) ⟨co_X9_isBrotherhood, in_X9, ⟨by decide, by decide, by decide +kernel⟩, Nat.le_of_ble_eq_true rfl, Nat.le_of_ble_eq_true rfl⟩ ml_X9_154 st_X9_isBrotherhood rfl rfl (Nat.le_of_ble_eq_true rfl) ⟨Nat.zero_le _, Nat.zero_le _⟩ (fun r9 σ10 hpo8 hok11 => ?_)
    obtain ⟨rfl, ⟨vu12, rfl, hvu12, ivu12_0⟩⟩ := hpo8
    refine sv_same (st2 := [sv_i vu12]) (lv2 := [(0, sv_r a), (1, sv_i ar1), (2, sv_i ar2), (3, sv_i on)]) rfl rfl ?_
    refine sv_if C.1 C.2.1 (cnd := .eq) (off := 8) (tgt := 19) (by decide +kernel) (by decide) ⟨by omega, by omega⟩ (fun (h13 : vu12 = 0) => ?_) (fun (h13 : ¬ (vu12 = 0)) => ?_)
    · refine sv_go C.1 C.2.1 [(.bipush (-2), 2)] (pc' := 21) (by decide +kernel) rfl (lv' := [(0, sv_r a), (1, sv_i ar1), (2, sv_i ar2), (3, sv_i on)]) (st' := [sv_i ((-2))]) rfl ?_
      exact sv_iret C hr (by decide +kernel) hok11 (⟨⟨_, rfl, ⟨by omega, by omega⟩⟩, hI, hF⟩)
    · have hp14 := ivu12_0 (by omega) (by omega)
      refine sv_go C.1 C.2.1 [(.iload_n 1, 1), (.iload_n 2, 1)] (pc' := 16) (by decide +kernel) rfl (lv' := [(0, sv_r a), (1, sv_i ar1), (2, sv_i ar2), (3, sv_i on)]) (st' := [sv_i ar2, sv_i ar1]) rfl ?_
      refine sv_icmp C.1 C.2.1 (cnd := .ne) (off := 6) (tgt := 22) (by decide +kernel) (by decide) ⟨by omega, by omega⟩ ⟨by omega, by omega⟩ (fun (h15 : ar1 ≠ ar2) => ?_) (fun (h15 : ¬ (ar1 ≠ ar2)) => ?_)
      · refine sv_go C.1 C.2.1 [(.aload_n 0, 1)] (pc' := 23) (by decide +kernel) rfl (lv' := [(0, sv_r a), (1, sv_i ar1), (2, sv_i ar2), (3, sv_i on)]) (st' := [sv_r a]) rfl ?_
        obtain ⟨v16, ev16, kv16⟩ := hI.ref (k := 3) k_a rfl
        refine sv_gf C (index := 33) (ci := 8) (k := 3) (r := (RX9, TX9, 6)) (v := sv_r v16) (by decide +kernel) (by rw [k_a]; rfl) rfl (by decide) fl_X9_33 (congrArg sv_a ev16) ?_
        refine sv_go C.1 C.2.1 [(.iload_n 1, 1), (.iload_n 2, 1), (.iload_n 3, 1)] (pc' := 29) (by decide +kernel) rfl (lv' := [(0, sv_r a), (1, sv_i ar1), (2, sv_i ar2), (3, sv_i on)]) (st' := [sv_i on, sv_i ar2, sv_i ar1, sv_r v16]) rfl ?_
        refine sv_cv C (index := 157) (k := 3) (rest := []) (ci := 0) (r := (RX0, TX0, 12)) (by decide +kernel) (sf_X0_setQuarrel l g A ty σ hok11 hTA hI v16 kv16 (ar1) ⟨by omega, by omega⟩ (ar2) ⟨by omega, by omega⟩ (on) ⟨by omega, by omega⟩) ⟨co_X0_setQuarrel, in_X0, ⟨by decide, by decide, by decide +kernel⟩, Nat.le_of_ble_eq_true rfl, Nat.le_of_ble_eq_true rfl⟩ ml_X9_157 im_X0_setQuarrel se_X0_setQuarrel (by rw [kv16]; rfl) rfl rfl rfl (Nat.le_of_ble_eq_true rfl) ⟨Nat.zero_le _, Nat.zero_le _⟩ (fun r18 σ19 hpo17 hok20 => ?_)
        obtain ⟨⟨vu21, rfl, hvu21⟩, hIu21, hFu21⟩ := hpo17
        have hGu21 := hF.tr hFu21 (by decide) (by decide)
        have t22 : σ19 a 3 = (v16 : Int) + 1 := (hFu21.at k_a (by decide) (by decide)).trans ev16
        refine sv_same (st2 := [sv_i vu21]) (lv2 := [(0, sv_r a), (1, sv_i ar1), (2, sv_i ar2), (3, sv_i on)]) rfl rfl ?_
        refine sv_if C.1 C.2.1 (cnd := .eq) (off := 7) (tgt := 39) (by decide +kernel) (by decide) ⟨by omega, by omega⟩ (fun (h23 : vu21 = 0) => ?_) (fun (h23 : ¬ (vu21 = 0)) => ?_)
        · refine sv_go C.1 C.2.1 [(.iconst 0, 1)] (pc' := 40) (by decide +kernel) rfl (lv' := [(0, sv_r a), (1, sv_i ar1), (2, sv_i ar2), (3, sv_i on)]) (st' := [sv_i 0]) rfl ?_
          exact sv_iret C hr (by decide +kernel) hok20 (⟨⟨_, rfl, ⟨by omega, by omega⟩⟩, hIu21, hGu21⟩)
        · refine sv_go C.1 C.2.1 [(.iconst 1, 1)] (pc' := 36) (by decide +kernel) rfl (lv' := [(0, sv_r a), (1, sv_i ar1), (2, sv_i ar2), (3, sv_i on)]) (st' := [sv_i 1]) rfl ?_
          refine sv_goto C.1 C.2.1 (off := 4) (tgt := 40) (by decide +kernel) (by decide) ?_
          exact sv_iret C hr (by decide +kernel) hok20 (⟨⟨_, rfl, ⟨by omega, by omega⟩⟩, hIu21, hGu21⟩)
      · refine sv_go C.1 C.2.1 [(.bipush (-2), 2)] (pc' := 21) (by decide +kernel) rfl (lv' := [(0, sv_r a), (1, sv_i ar1), (2, sv_i ar2), (3, sv_i on)]) (st' := [sv_i ((-2))]) rfl ?_
        exact sv_iret C hr (by decide +kernel) hok11 (⟨⟨_, rfl, ⟨by omega, by omega⟩⟩, hI, hF⟩)

theorem ml_X9_171 : Cond.methodLink RX9 171 yX0_tellTurn ∈ lw_good := sv_mem 866 (by decide +kernel) rfl
theorem co_X0_tellTurn : Cond.code yX0_tellTurn cX0_tellTurn 3 (some .int) ∈ lw_good := sv_mem 869 (by decide +kernel) rfl
theorem im_X0_tellTurn : Cond.instanceMethod yX0_tellTurn ∈ lw_good := sv_mem 867 (by decide +kernel) rfl
theorem se_X0_tellTurn : Cond.selects RX0 yX0_tellTurn yX0_tellTurn ∈ lw_good := sv_mem 868 (by decide +kernel) rfl
set_option maxHeartbeats 4000000 in
set_option maxRecDepth 100000 in
theorem sf_X9_turn (l : Launch) (g : sv_G) (A : Nat → Prop) (ty : Nat → Nat) (σ : Nat → Nat → Int) (hok : sv_ok ty σ) (hTA : ∀ q, ty q ≠ 0 → A q) (hI : sv_inv sp_1 ty σ) (a : Nat) (k_a : ty a = 1) (ar1 : Int) (h_ar1 : (-2147483648) ≤ ar1 ∧ ar1 ≤ 2147483647) (ar2 : Int) (h_ar2 : (-2147483648) ≤ ar2 ∧ ar2 ≤ 2147483647) : sv_M l yX9_turn cX9_turn 3 (some .int) { frames := 1, cells := 0, slots := 0, locals := 22 } g A ty σ [sv_r a, sv_i ar1, sv_i ar2] (fun r σ' => σ = σ' ∧ ∃ rv : Int, r = [sv_i rv] ∧ ((-2147483648) ≤ rv ∧ rv ≤ 2147483647)) := by
  refine sv_enter (by decide) (Nat.le_of_ble_eq_true rfl) ?_
  intro p e s m args below meth c C hr
  have C : sv_C g A RX9 cX9_turn 3 p s m args meth c := C
  have hr : meth.sig.returnType = (some .int) := hr
  have hF : sv_ofx [] [] ty σ σ := sv_ofx.rf
  refine sv_same (st2 := []) (lv2 := [(0, sv_r a), (1, sv_i ar1), (2, sv_i ar2)]) rfl rfl ?_
  refine sv_go C.1 C.2.1 [(.aload_n 0, 1)] (pc' := 1) (by decide +kernel) rfl (lv' := [(0, sv_r a), (1, sv_i ar1), (2, sv_i ar2)]) (st' := [sv_r a]) rfl ?_
  obtain ⟨v1, ev1, kv1⟩ := hI.ref (k := 3) k_a rfl
  refine sv_gf C (index := 33) (ci := 8) (k := 3) (r := (RX9, TX9, 6)) (v := sv_r v1) (by decide +kernel) (by rw [k_a]; rfl) rfl (by decide) fl_X9_33 (congrArg sv_a ev1) ?_
  refine sv_go C.1 C.2.1 [(.iload_n 1, 1), (.iload_n 2, 1)] (pc' := 6) (by decide +kernel) rfl (lv' := [(0, sv_r a), (1, sv_i ar1), (2, sv_i ar2)]) (st' := [sv_i ar2, sv_i ar1, sv_r v1]) rfl ?_
  refine sv_cv C (index := 171) (k := 2) (rest := []) (ci := 0) (r := (RX0, TX0, 12)) (by decide +kernel) (sf_X0_tellTurn l g A ty σ hok hTA hI v1 kv1 (ar1) ⟨by omega, by omega⟩ (ar2) ⟨by omega, by omega⟩) ⟨co_X0_tellTurn, in_X0, ⟨by decide, by decide, by decide +kernel⟩, Nat.le_of_ble_eq_true rfl, Nat.le_of_ble_eq_true rfl⟩ ml_X9_171 im_X0_tellTurn se_X0_tellTurn (by rw [kv1]; rfl) rfl rfl rfl (Nat.le_of_ble_eq_true rfl) ⟨Nat.zero_le _, Nat.zero_le _⟩ (fun r3 σ4 hpo2 hok5 => ?_)
  obtain ⟨rfl, ⟨vu6, rfl, hvu6⟩⟩ := hpo2
  refine sv_same (st2 := [sv_i vu6]) (lv2 := [(0, sv_r a), (1, sv_i ar1), (2, sv_i ar2)]) rfl rfl ?_
  exact sv_iret C hr (by decide +kernel) hok5 (⟨rfl, ⟨_, rfl, ⟨by omega, by omega⟩⟩⟩)

theorem fl_X9_174 : Cond.fieldLink RX9 174 "SaintsRoad$Brotherhoods" "carriedBy" "[I" ∈ lw_good := sv_mem 318 (by decide +kernel) rfl
set_option maxHeartbeats 4000000 in
set_option maxRecDepth 100000 in
theorem sf_X9_carried (l : Launch) (g : sv_G) (A : Nat → Prop) (ty : Nat → Nat) (σ : Nat → Nat → Int) (hok : sv_ok ty σ) (hTA : ∀ q, ty q ≠ 0 → A q) (hI : sv_inv sp_1 ty σ) (a : Nat) (k_a : ty a = 1) (ar1 : Int) (h_ar1 : (-2147483648) ≤ ar1 ∧ ar1 ≤ 2147483647) : sv_M l yX9_carried cX9_carried 2 (some .int) { frames := 1, cells := 0, slots := 0, locals := 20 } g A ty σ [sv_r a, sv_i ar1] (fun r σ' => σ = σ' ∧ ∃ rv : Int, r = [sv_i rv] ∧ ((-2147483648) ≤ rv ∧ rv ≤ 2147483647)) := by
  refine sv_enter (by decide) (Nat.le_of_ble_eq_true rfl) ?_
  intro p e s m args below meth c C hr
  have C : sv_C g A RX9 cX9_carried 2 p s m args meth c := C
  have hr : meth.sig.returnType = (some .int) := hr
  have hF : sv_ofx [] [] ty σ σ := sv_ofx.rf
  refine sv_same (st2 := []) (lv2 := [(0, sv_r a), (1, sv_i ar1)]) rfl rfl ?_
  refine sv_go C.1 C.2.1 [(.iload_n 1, 1)] (pc' := 1) (by decide +kernel) rfl (lv' := [(0, sv_r a), (1, sv_i ar1)]) (st' := [sv_i ar1]) rfl ?_
  refine sv_cs C (index := 154) (k := 1) (rest := []) (by decide +kernel) (sf_X9_isBrotherhood l g A ty σ hok hTA hI (ar1) ⟨by omega, by omega⟩) ⟨co_X9_isBrotherhood, in_X9, ⟨by decide, by decide, by decide +kernel⟩, Nat.le_of_ble_eq_true rfl, Nat.le_of_ble_eq_true rfl⟩ ml_X9_154 st_X9_isBrotherhood rfl rfl (Nat.le_of_ble_eq_true rfl) ⟨Nat.zero_le _, Nat.zero_le _⟩ (fun r2 σ3 hpo1 hok4 => ?_)
  obtain ⟨rfl, ⟨vu5, rfl, hvu5, ivu5_0⟩⟩ := hpo1
  refine sv_same (st2 := [sv_i vu5]) (lv2 := [(0, sv_r a), (1, sv_i ar1)]) rfl rfl ?_
  refine sv_if C.1 C.2.1 (cnd := .eq) (off := 15) (tgt := 19) (by decide +kernel) (by decide) ⟨by omega, by omega⟩ (fun (h6 : vu5 = 0) => ?_) (fun (h6 : ¬ (vu5 = 0)) => ?_)
  · refine sv_go C.1 C.2.1 [(.bipush (-2), 2)] (pc' := 21) (by decide +kernel) rfl (lv' := [(0, sv_r a), (1, sv_i ar1)]) (st' := [sv_i ((-2))]) rfl ?_
    exact sv_iret C hr (by decide +kernel) hok4 (⟨rfl, ⟨_, rfl, ⟨by omega, by omega⟩⟩⟩)
  · have hp7 := ivu5_0 (by omega) (by omega)
    refine sv_go C.1 C.2.1 [(.aload_n 0, 1)] (pc' := 8) (by decide +kernel) rfl (lv' := [(0, sv_r a), (1, sv_i ar1)]) (st' := [sv_r a]) rfl ?_
    obtain ⟨v8, ev8, kv8⟩ := hI.ref (k := 3) k_a rfl
    refine sv_gf C (index := 33) (ci := 8) (k := 3) (r := (RX9, TX9, 6)) (v := sv_r v8) (by decide +kernel) (by rw [k_a]; rfl) rfl (by decide) fl_X9_33 (congrArg sv_a ev8) ?_
    obtain ⟨v9, ev9, kv9⟩ := hI.ref (k := 0) kv8 rfl
    refine sv_gf C (index := 174) (ci := 0) (k := 0) (r := (RX0, TX0, 12)) (v := sv_r v9) (by decide +kernel) (by rw [kv8]; rfl) rfl (by decide) fl_X9_174 (congrArg sv_a ev9) ?_
    refine sv_go C.1 C.2.1 [(.iload_n 1, 1)] (pc' := 15) (by decide +kernel) rfl (lv' := [(0, sv_r a), (1, sv_i ar1)]) (st' := [sv_i ar1, sv_r v9]) rfl ?_
    refine sv_ia C (n := 10) (by decide +kernel) (by rw [kv9]; rfl) (by decide) (by omega) (by omega) ?_
    obtain ⟨v10, ev10, hv10⟩ := sv_rde hok4 (a := v9) (k := (ar1 : Int).toNat) (n := 10) (by rw [kv9]; rfl) (by omega)
    rw [ev10]
    refine sv_goto C.1 C.2.1 (off := 5) (tgt := 21) (by decide +kernel) (by decide) ?_
    exact sv_iret C hr (by decide +kernel) hok4 (⟨rfl, ⟨_, rfl, ⟨by omega, by omega⟩⟩⟩)

theorem ml_X9_177 : Cond.methodLink RX9 177 yX9_isCorner ∈ lw_good := sv_mem 878 (by decide +kernel) rfl
theorem ml_X9_180 : Cond.methodLink RX9 180 yX8_setStreet ∈ lw_good := sv_mem 881 (by decide +kernel) rfl
theorem co_X8_setStreet : Cond.code yX8_setStreet cX8_setStreet 5 (some .int) ∈ lw_good := sv_mem 884 (by decide +kernel) rfl
theorem im_X8_setStreet : Cond.instanceMethod yX8_setStreet ∈ lw_good := sv_mem 882 (by decide +kernel) rfl
theorem se_X8_setStreet : Cond.selects RX8 yX8_setStreet yX8_setStreet ∈ lw_good := sv_mem 883 (by decide +kernel) rfl
set_option maxHeartbeats 4000000 in
set_option maxRecDepth 100000 in
theorem sf_X9_street (l : Launch) (g : sv_G) (A : Nat → Prop) (ty : Nat → Nat) (σ : Nat → Nat → Int) (hok : sv_ok ty σ) (hTA : ∀ q, ty q ≠ 0 → A q) (hI : sv_inv sp_1 ty σ) (a : Nat) (k_a : ty a = 1) (ar1 : Int) (h_ar1 : (-2147483648) ≤ ar1 ∧ ar1 ≤ 2147483647) (ar2 : Int) (h_ar2 : (-2147483648) ≤ ar2 ∧ ar2 ≤ 2147483647) (ar3 : Int) (h_ar3 : (-2147483648) ≤ ar3 ∧ ar3 ≤ 2147483647) : sv_M l yX9_street cX9_street 4 (some .int) { frames := 3, cells := 0, slots := 0, locals := 66 } g A ty σ [sv_r a, sv_i ar1, sv_i ar2, sv_i ar3] (fun r σ' => (∃ rv : Int, r = [sv_i rv] ∧ ((-2) ≤ rv ∧ rv ≤ 60)) ∧ sv_inv sp_1 ty σ' ∧ sv_ofx [(6, 1)] [38] ty σ σ') := by
  refine sv_enter (by decide) (Nat.le_of_ble_eq_true rfl) ?_
  intro p e s m args below meth c C hr
  have C : sv_C g A RX9 cX9_street 4 p s m args meth c := C
  have hr : meth.sig.returnType = (some .int) := hr
  have hF : sv_ofx [(6, 1)] [38] ty σ σ := sv_ofx.rf
  refine sv_same (st2 := []) (lv2 := [(0, sv_r a), (1, sv_i ar1), (2, sv_i ar2), (3, sv_i ar3)]) rfl rfl ?_
  refine sv_go C.1 C.2.1 [(.iload_n 1, 1)] (pc' := 1) (by decide +kernel) rfl (lv' := [(0, sv_r a), (1, sv_i ar1), (2, sv_i ar2), (3, sv_i ar3)]) (st' := [sv_i ar1]) rfl ?_
  refine sv_cs C (index := 177) (k := 1) (rest := []) (by decide +kernel) (sf_X9_isCorner l g A ty σ hok hTA hI (ar1) ⟨by omega, by omega⟩) ⟨co_X9_isCorner, in_X9, ⟨by decide, by decide, by decide +kernel⟩, Nat.le_of_ble_eq_true rfl, Nat.le_of_ble_eq_true rfl⟩ ml_X9_177 st_X9_isCorner rfl rfl (Nat.le_of_ble_eq_true rfl) ⟨Nat.zero_le _, Nat.zero_le _⟩ (fun r2 σ3 hpo1 hok4 => ?_)
  obtain ⟨rfl, ⟨vu5, rfl, hvu5, ivu5_0⟩⟩ := hpo1
  refine sv_same (st2 := [sv_i vu5]) (lv2 := [(0, sv_r a), (1, sv_i ar1), (2, sv_i ar2), (3, sv_i ar3)]) rfl rfl ?_
  refine sv_if C.1 C.2.1 (cnd := .eq) (off := 25) (tgt := 29) (by decide +kernel) (by decide) ⟨by omega, by omega⟩ (fun (h6 : vu5 = 0) => ?_) (fun (h6 : ¬ (vu5 = 0)) => ?_)
  · refine sv_go C.1 C.2.1 [(.bipush (-2), 2)] (pc' := 31) (by decide +kernel) rfl (lv' := [(0, sv_r a), (1, sv_i ar1), (2, sv_i ar2), (3, sv_i ar3)]) (st' := [sv_i ((-2))]) rfl ?_
    exact sv_iret C hr (by decide +kernel) hok4 (⟨⟨_, rfl, ⟨by omega, by omega⟩⟩, hI, hF⟩)
  · have hp7 := ivu5_0 (by omega) (by omega)
    refine sv_go C.1 C.2.1 [(.iload_n 2, 1)] (pc' := 8) (by decide +kernel) rfl (lv' := [(0, sv_r a), (1, sv_i ar1), (2, sv_i ar2), (3, sv_i ar3)]) (st' := [sv_i ar2]) rfl ?_
    refine sv_cs C (index := 177) (k := 1) (rest := []) (by decide +kernel) (sf_X9_isCorner l g A ty σ hok4 hTA hI (ar2) ⟨by omega, by omega⟩) ⟨co_X9_isCorner, in_X9, ⟨by decide, by decide, by decide +kernel⟩, Nat.le_of_ble_eq_true rfl, Nat.le_of_ble_eq_true rfl⟩ ml_X9_177 st_X9_isCorner rfl rfl (Nat.le_of_ble_eq_true rfl) ⟨Nat.zero_le _, Nat.zero_le _⟩ (fun r9 σ10 hpo8 hok11 => ?_)
    obtain ⟨rfl, ⟨vu12, rfl, hvu12, ivu12_0⟩⟩ := hpo8
    refine sv_same (st2 := [sv_i vu12]) (lv2 := [(0, sv_r a), (1, sv_i ar1), (2, sv_i ar2), (3, sv_i ar3)]) rfl rfl ?_
    refine sv_if C.1 C.2.1 (cnd := .eq) (off := 18) (tgt := 29) (by decide +kernel) (by decide) ⟨by omega, by omega⟩ (fun (h13 : vu12 = 0) => ?_) (fun (h13 : ¬ (vu12 = 0)) => ?_)
    · refine sv_go C.1 C.2.1 [(.bipush (-2), 2)] (pc' := 31) (by decide +kernel) rfl (lv' := [(0, sv_r a), (1, sv_i ar1), (2, sv_i ar2), (3, sv_i ar3)]) (st' := [sv_i ((-2))]) rfl ?_
      exact sv_iret C hr (by decide +kernel) hok11 (⟨⟨_, rfl, ⟨by omega, by omega⟩⟩, hI, hF⟩)
    · have hp14 := ivu12_0 (by omega) (by omega)
      refine sv_go C.1 C.2.1 [(.iload_n 1, 1), (.iload_n 2, 1)] (pc' := 16) (by decide +kernel) rfl (lv' := [(0, sv_r a), (1, sv_i ar1), (2, sv_i ar2), (3, sv_i ar3)]) (st' := [sv_i ar2, sv_i ar1]) rfl ?_
      refine sv_icmp C.1 C.2.1 (cnd := .eq) (off := 13) (tgt := 29) (by decide +kernel) (by decide) ⟨by omega, by omega⟩ ⟨by omega, by omega⟩ (fun (h15 : ar1 = ar2) => ?_) (fun (h15 : ¬ (ar1 = ar2)) => ?_)
      · refine sv_go C.1 C.2.1 [(.bipush (-2), 2)] (pc' := 31) (by decide +kernel) rfl (lv' := [(0, sv_r a), (1, sv_i ar1), (2, sv_i ar2), (3, sv_i ar3)]) (st' := [sv_i ((-2))]) rfl ?_
        exact sv_iret C hr (by decide +kernel) hok11 (⟨⟨_, rfl, ⟨by omega, by omega⟩⟩, hI, hF⟩)
      · refine sv_go C.1 C.2.1 [(.iload_n 3, 1)] (pc' := 20) (by decide +kernel) rfl (lv' := [(0, sv_r a), (1, sv_i ar1), (2, sv_i ar2), (3, sv_i ar3)]) (st' := [sv_i ar3]) rfl ?_
        refine sv_if C.1 C.2.1 (cnd := .lt) (off := 9) (tgt := 29) (by decide +kernel) (by decide) ⟨by omega, by omega⟩ (fun (h16 : ar3 < 0) => ?_) (fun (h16 : ¬ (ar3 < 0)) => ?_)
        · refine sv_go C.1 C.2.1 [(.bipush (-2), 2)] (pc' := 31) (by decide +kernel) rfl (lv' := [(0, sv_r a), (1, sv_i ar1), (2, sv_i ar2), (3, sv_i ar3)]) (st' := [sv_i ((-2))]) rfl ?_
          exact sv_iret C hr (by decide +kernel) hok11 (⟨⟨_, rfl, ⟨by omega, by omega⟩⟩, hI, hF⟩)
        · refine sv_go C.1 C.2.1 [(.iload_n 3, 1), (.bipush 60, 2)] (pc' := 26) (by decide +kernel) rfl (lv' := [(0, sv_r a), (1, sv_i ar1), (2, sv_i ar2), (3, sv_i ar3)]) (st' := [sv_i 60, sv_i ar3]) rfl ?_
          refine sv_icmp C.1 C.2.1 (cnd := .le) (off := 6) (tgt := 32) (by decide +kernel) (by decide) ⟨by omega, by omega⟩ ⟨by omega, by omega⟩ (fun (h17 : ar3 ≤ 60) => ?_) (fun (h17 : ¬ (ar3 ≤ 60)) => ?_)
          · refine sv_go C.1 C.2.1 [(.aload_n 0, 1)] (pc' := 33) (by decide +kernel) rfl (lv' := [(0, sv_r a), (1, sv_i ar1), (2, sv_i ar2), (3, sv_i ar3)]) (st' := [sv_r a]) rfl ?_
            obtain ⟨v18, ev18, kv18⟩ := hI.ref (k := 4) k_a rfl
            refine sv_gf C (index := 40) (ci := 8) (k := 4) (r := (RX9, TX9, 6)) (v := sv_r v18) (by decide +kernel) (by rw [k_a]; rfl) rfl (by decide) fl_X9_40 (congrArg sv_a ev18) ?_
            refine sv_go C.1 C.2.1 [(.iload_n 1, 1), (.iload_n 2, 1), (.iload_n 3, 1)] (pc' := 39) (by decide +kernel) rfl (lv' := [(0, sv_r a), (1, sv_i ar1), (2, sv_i ar2), (3, sv_i ar3)]) (st' := [sv_i ar3, sv_i ar2, sv_i ar1, sv_r v18]) rfl ?_
            refine sv_cv C (index := 180) (k := 3) (rest := []) (ci := 7) (r := (RX8, TX8, 4)) (by decide +kernel) (sf_X8_setStreet l g A ty σ hok11 hTA hI v18 kv18 (ar1) ⟨by omega, by omega⟩ (ar2) ⟨by omega, by omega⟩ (ar3) ⟨by omega, by omega⟩) ⟨co_X8_setStreet, in_X8, ⟨by decide, by decide, by decide +kernel⟩, Nat.le_of_ble_eq_true rfl, Nat.le_of_ble_eq_true rfl⟩ ml_X9_180 im_X8_setStreet se_X8_setStreet (by rw [kv18]; rfl) rfl rfl rfl (Nat.le_of_ble_eq_true rfl) ⟨Nat.zero_le _, Nat.zero_le _⟩ (fun r20 σ21 hpo19 hok22 => ?_)
            obtain ⟨⟨vu23, rfl, hvu23⟩, hIu23, hFu23⟩ := hpo19
            have hGu23 := hF.tr hFu23 (by decide) (by decide)
            have t24 : σ21 a 4 = (v18 : Int) + 1 := (hFu23.at k_a (by decide) (by decide)).trans ev18
            refine sv_same (st2 := [sv_i vu23]) (lv2 := [(0, sv_r a), (1, sv_i ar1), (2, sv_i ar2), (3, sv_i ar3)]) rfl rfl ?_
            exact sv_iret C hr (by decide +kernel) hok22 (⟨⟨_, rfl, ⟨by omega, by omega⟩⟩, hIu23, hGu23⟩)
          · refine sv_go C.1 C.2.1 [(.bipush (-2), 2)] (pc' := 31) (by decide +kernel) rfl (lv' := [(0, sv_r a), (1, sv_i ar1), (2, sv_i ar2), (3, sv_i ar3)]) (st' := [sv_i ((-2))]) rfl ?_
            exact sv_iret C hr (by decide +kernel) hok11 (⟨⟨_, rfl, ⟨by omega, by omega⟩⟩, hI, hF⟩)

theorem ml_X9_187 : Cond.methodLink RX9 187 yX9_isBeginning ∈ lw_good := sv_mem 900 (by decide +kernel) rfl
theorem co_X9_isBeginning : Cond.code yX9_isBeginning cX9_isBeginning 1 (some .boolean) ∈ lw_good := sv_mem 902 (by decide +kernel) rfl
theorem st_X9_isBeginning : Cond.static yX9_isBeginning ∈ lw_good := sv_mem 901 (by decide +kernel) rfl
theorem ml_X9_194 : Cond.methodLink RX9 194 yX5_start ∈ lw_good := sv_mem 903 (by decide +kernel) rfl
theorem co_X5_start : Cond.code yX5_start cX5_start 4 none ∈ lw_good := sv_mem 906 (by decide +kernel) rfl
theorem im_X5_start : Cond.instanceMethod yX5_start ∈ lw_good := sv_mem 904 (by decide +kernel) rfl
theorem se_X5_start : Cond.selects RX5 yX5_start yX5_start ∈ lw_good := sv_mem 905 (by decide +kernel) rfl
set_option maxHeartbeats 4000000 in
set_option maxRecDepth 100000 in
theorem sf_X9_begin (l : Launch) (g : sv_G) (A : Nat → Prop) (ty : Nat → Nat) (σ : Nat → Nat → Int) (hok : sv_ok ty σ) (hTA : ∀ q, ty q ≠ 0 → A q) (hI : sv_inv sp_1 ty σ) (a : Nat) (k_a : ty a = 1) (ar1 : Int) (h_ar1 : (-2147483648) ≤ ar1 ∧ ar1 ≤ 2147483647) (ar2 : Int) (h_ar2 : (-2147483648) ≤ ar2 ∧ ar2 ≤ 2147483647) (ar3 : Int) (h_ar3 : (-2147483648) ≤ ar3 ∧ ar3 ≤ 2147483647) (ar4 : Int) (h_ar4 : (-2147483648) ≤ ar4 ∧ ar4 ≤ 2147483647) : sv_M l yX9_begin cX9_begin 5 (some .int) { frames := 1, cells := 0, slots := 0, locals := 23 } g A ty σ [sv_r a, sv_i ar1, sv_i ar2, sv_i ar3, sv_i ar4] (fun r σ' => (∃ rv : Int, r = [sv_i rv] ∧ ((-2) ≤ rv ∧ rv ≤ 1)) ∧ sv_inv sp_1 ty σ' ∧ sv_ofx [(9, 0), (9, 1), (9, 4)] [40, 41] ty σ σ') := by
  refine sv_enter (by decide) (Nat.le_of_ble_eq_true rfl) ?_
  intro p e s m args below meth c C hr
  have C : sv_C g A RX9 cX9_begin 5 p s m args meth c := C
  have hr : meth.sig.returnType = (some .int) := hr
  have hF : sv_ofx [(9, 0), (9, 1), (9, 4)] [40, 41] ty σ σ := sv_ofx.rf
  refine sv_same (st2 := []) (lv2 := [(0, sv_r a), (1, sv_i ar1), (2, sv_i ar2), (3, sv_i ar3), (4, sv_i ar4)]) rfl rfl ?_
  refine sv_go C.1 C.2.1 [(.iload_n 1, 1)] (pc' := 1) (by decide +kernel) rfl (lv' := [(0, sv_r a), (1, sv_i ar1), (2, sv_i ar2), (3, sv_i ar3), (4, sv_i ar4)]) (st' := [sv_i ar1]) rfl ?_
  refine sv_cs C (index := 184) (k := 1) (rest := []) (by decide +kernel) (sf_X9_isProcession l g A ty σ hok hTA hI (ar1) ⟨by omega, by omega⟩) ⟨co_X9_isProcession, in_X9, ⟨by decide, by decide, by decide +kernel⟩, Nat.le_of_ble_eq_true rfl, Nat.le_of_ble_eq_true rfl⟩ ml_X9_184 st_X9_isProcession rfl rfl (Nat.le_of_ble_eq_true rfl) ⟨Nat.zero_le _, Nat.zero_le _⟩ (fun r2 σ3 hpo1 hok4 => ?_)
  obtain ⟨rfl, ⟨vu5, rfl, hvu5, ivu5_0⟩⟩ := hpo1
  refine sv_same (st2 := [sv_i vu5]) (lv2 := [(0, sv_r a), (1, sv_i ar1), (2, sv_i ar2), (3, sv_i ar3), (4, sv_i ar4)]) rfl rfl ?_
  refine sv_if C.1 C.2.1 (cnd := .eq) (off := 17) (tgt := 21) (by decide +kernel) (by decide) ⟨by omega, by omega⟩ (fun (h6 : vu5 = 0) => ?_) (fun (h6 : ¬ (vu5 = 0)) => ?_)
  · refine sv_go C.1 C.2.1 [(.bipush (-2), 2)] (pc' := 23) (by decide +kernel) rfl (lv' := [(0, sv_r a), (1, sv_i ar1), (2, sv_i ar2), (3, sv_i ar3), (4, sv_i ar4)]) (st' := [sv_i ((-2))]) rfl ?_
    exact sv_iret C hr (by decide +kernel) hok4 (⟨⟨_, rfl, ⟨by omega, by omega⟩⟩, hI, hF⟩)
  · have hp7 := ivu5_0 (by omega) (by omega)
    refine sv_go C.1 C.2.1 [(.iload_n 2, 1)] (pc' := 8) (by decide +kernel) rfl (lv' := [(0, sv_r a), (1, sv_i ar1), (2, sv_i ar2), (3, sv_i ar3), (4, sv_i ar4)]) (st' := [sv_i ar2]) rfl ?_
    refine sv_cs C (index := 177) (k := 1) (rest := []) (by decide +kernel) (sf_X9_isCorner l g A ty σ hok4 hTA hI (ar2) ⟨by omega, by omega⟩) ⟨co_X9_isCorner, in_X9, ⟨by decide, by decide, by decide +kernel⟩, Nat.le_of_ble_eq_true rfl, Nat.le_of_ble_eq_true rfl⟩ ml_X9_177 st_X9_isCorner rfl rfl (Nat.le_of_ble_eq_true rfl) ⟨Nat.zero_le _, Nat.zero_le _⟩ (fun r9 σ10 hpo8 hok11 => ?_)
    obtain ⟨rfl, ⟨vu12, rfl, hvu12, ivu12_0⟩⟩ := hpo8
    refine sv_same (st2 := [sv_i vu12]) (lv2 := [(0, sv_r a), (1, sv_i ar1), (2, sv_i ar2), (3, sv_i ar3), (4, sv_i ar4)]) rfl rfl ?_
    refine sv_if C.1 C.2.1 (cnd := .eq) (off := 10) (tgt := 21) (by decide +kernel) (by decide) ⟨by omega, by omega⟩ (fun (h13 : vu12 = 0) => ?_) (fun (h13 : ¬ (vu12 = 0)) => ?_)
    · refine sv_go C.1 C.2.1 [(.bipush (-2), 2)] (pc' := 23) (by decide +kernel) rfl (lv' := [(0, sv_r a), (1, sv_i ar1), (2, sv_i ar2), (3, sv_i ar3), (4, sv_i ar4)]) (st' := [sv_i ((-2))]) rfl ?_
      exact sv_iret C hr (by decide +kernel) hok11 (⟨⟨_, rfl, ⟨by omega, by omega⟩⟩, hI, hF⟩)
    · have hp14 := ivu12_0 (by omega) (by omega)
      refine sv_go C.1 C.2.1 [(.iload_n 3, 1)] (pc' := 15) (by decide +kernel) rfl (lv' := [(0, sv_r a), (1, sv_i ar1), (2, sv_i ar2), (3, sv_i ar3), (4, sv_i ar4)]) (st' := [sv_i ar3]) rfl ?_
      refine sv_cs C (index := 187) (k := 1) (rest := []) (by decide +kernel) (sf_X9_isBeginning l g A ty σ hok11 hTA hI (ar3) ⟨by omega, by omega⟩) ⟨co_X9_isBeginning, in_X9, ⟨by decide, by decide, by decide +kernel⟩, Nat.le_of_ble_eq_true rfl, Nat.le_of_ble_eq_true rfl⟩ ml_X9_187 st_X9_isBeginning rfl rfl (Nat.le_of_ble_eq_true rfl) ⟨Nat.zero_le _, Nat.zero_le _⟩ (fun r16 σ17 hpo15 hok18 => ?_)
      obtain ⟨rfl, ⟨vu19, rfl, hvu19, ivu19_0⟩⟩ := hpo15
      refine sv_same (st2 := [sv_i vu19]) (lv2 := [(0, sv_r a), (1, sv_i ar1), (2, sv_i ar2), (3, sv_i ar3), (4, sv_i ar4)]) rfl rfl ?_
      refine sv_if C.1 C.2.1 (cnd := .ne) (off := 6) (tgt := 24) (by decide +kernel) (by decide) ⟨by omega, by omega⟩ (fun (h20 : vu19 ≠ 0) => ?_) (fun (h20 : ¬ (vu19 ≠ 0)) => ?_)
      · have hp21 := ivu19_0 (by omega) (by omega)
        refine sv_go C.1 C.2.1 [(.iload 4, 2)] (pc' := 26) (by decide +kernel) rfl (lv' := [(0, sv_r a), (1, sv_i ar1), (2, sv_i ar2), (3, sv_i ar3), (4, sv_i ar4)]) (st' := [sv_i ar4]) rfl ?_
        refine sv_if C.1 C.2.1 (cnd := .lt) (off := 10) (tgt := 36) (by decide +kernel) (by decide) ⟨by omega, by omega⟩ (fun (h22 : ar4 < 0) => ?_) (fun (h22 : ¬ (ar4 < 0)) => ?_)
        · refine sv_go C.1 C.2.1 [(.bipush (-2), 2)] (pc' := 38) (by decide +kernel) rfl (lv' := [(0, sv_r a), (1, sv_i ar1), (2, sv_i ar2), (3, sv_i ar3), (4, sv_i ar4)]) (st' := [sv_i ((-2))]) rfl ?_
          exact sv_iret C hr (by decide +kernel) hok18 (⟨⟨_, rfl, ⟨by omega, by omega⟩⟩, hI, hF⟩)
        · refine sv_go C.1 C.2.1 [(.iload 4, 2), (.bipush 30, 2)] (pc' := 33) (by decide +kernel) rfl (lv' := [(0, sv_r a), (1, sv_i ar1), (2, sv_i ar2), (3, sv_i ar3), (4, sv_i ar4)]) (st' := [sv_i 30, sv_i ar4]) rfl ?_
          refine sv_icmp C.1 C.2.1 (cnd := .le) (off := 6) (tgt := 39) (by decide +kernel) (by decide) ⟨by omega, by omega⟩ ⟨by omega, by omega⟩ (fun (h23 : ar4 ≤ 30) => ?_) (fun (h23 : ¬ (ar4 ≤ 30)) => ?_)
          · refine sv_go C.1 C.2.1 [(.aload_n 0, 1)] (pc' := 40) (by decide +kernel) rfl (lv' := [(0, sv_r a), (1, sv_i ar1), (2, sv_i ar2), (3, sv_i ar3), (4, sv_i ar4)]) (st' := [sv_r a]) rfl ?_
            obtain ⟨v24, ev24, kv24⟩ := hI.ref (k := 4) k_a rfl
            refine sv_gf C (index := 40) (ci := 8) (k := 4) (r := (RX9, TX9, 6)) (v := sv_r v24) (by decide +kernel) (by rw [k_a]; rfl) rfl (by decide) fl_X9_40 (congrArg sv_a ev24) ?_
            obtain ⟨v25, ev25, kv25⟩ := hI.ref (k := 0) kv24 rfl
            refine sv_gf C (index := 190) (ci := 7) (k := 0) (r := (RX8, TX8, 4)) (v := sv_r v25) (by decide +kernel) (by rw [kv24]; rfl) rfl (by decide) fl_X9_190 (congrArg sv_a ev25) ?_
            refine sv_go C.1 C.2.1 [(.iload_n 1, 1)] (pc' := 47) (by decide +kernel) rfl (lv' := [(0, sv_r a), (1, sv_i ar1), (2, sv_i ar2), (3, sv_i ar3), (4, sv_i ar4)]) (st' := [sv_i ar1, sv_r v25]) rfl ?_
            refine sv_aa C (N := "SaintsRoad$Procession") (by decide) (n := 12) (by decide +kernel) (by rw [kv25]; rfl) (by decide) (by omega) (by omega) ?_
            obtain ⟨v26, ev26, kv26⟩ := hI.ref (k := (ar1 : Int).toNat) kv25 (by first | rfl | (show (if _ then _ else _) = _; rw [if_pos (by omega)]))
            rw [ev26]
            refine sv_go C.1 C.2.1 [(.iload_n 2, 1), (.iload_n 3, 1), (.iload 4, 2)] (pc' := 52) (by decide +kernel) rfl (lv' := [(0, sv_r a), (1, sv_i ar1), (2, sv_i ar2), (3, sv_i ar3), (4, sv_i ar4)]) (st' := [sv_i ar4, sv_i ar3, sv_i ar2, sv_r v26]) rfl ?_
            refine sv_cv C (index := 194) (k := 3) (rest := []) (ci := 4) (r := (RX5, TX5, 5)) (by decide +kernel) (sf_X5_start l g A ty σ hok18 hTA hI v26 kv26 (ar2) ⟨by omega, by omega⟩ (ar3) ⟨by omega, by omega⟩ (ar4) ⟨by omega, by omega⟩) ⟨co_X5_start, in_X5, ⟨by decide, by decide, by decide +kernel⟩, Nat.le_of_ble_eq_true rfl, Nat.le_of_ble_eq_true rfl⟩ ml_X9_194 im_X5_start se_X5_start (by rw [kv26]; rfl) rfl rfl rfl (Nat.le_of_ble_eq_true rfl) ⟨Nat.zero_le _, Nat.zero_le _⟩ (fun r28 σ29 hpo27 hok30 => ?_)
            obtain ⟨rfl, hIu31, hFu31⟩ := hpo27
            have hGu31 := hF.tr hFu31 (by decide) (by decide)
            have t32 : σ29 a 4 = (v24 : Int) + 1 := (hFu31.at k_a (by decide) (by decide)).trans ev24
            have t33 : σ29 v24 0 = (v25 : Int) + 1 := (hFu31.at kv24 (by decide) (by decide)).trans ev25
            have t34 : σ29 v25 (ar1 : Int).toNat = (v26 : Int) + 1 := (hFu31.atA kv25 (by decide) (by decide)).trans ev26
            refine sv_same (st2 := []) (lv2 := [(0, sv_r a), (1, sv_i ar1), (2, sv_i ar2), (3, sv_i ar3), (4, sv_i ar4)]) rfl rfl ?_
            refine sv_go C.1 C.2.1 [(.iconst 1, 1)] (pc' := 56) (by decide +kernel) rfl (lv' := [(0, sv_r a), (1, sv_i ar1), (2, sv_i ar2), (3, sv_i ar3), (4, sv_i ar4)]) (st' := [sv_i 1]) rfl ?_
            exact sv_iret C hr (by decide +kernel) hok30 (⟨⟨_, rfl, ⟨by omega, by omega⟩⟩, hIu31, hGu31⟩)
          · refine sv_go C.1 C.2.1 [(.bipush (-2), 2)] (pc' := 38) (by decide +kernel) rfl (lv' := [(0, sv_r a), (1, sv_i ar1), (2, sv_i ar2), (3, sv_i ar3), (4, sv_i ar4)]) (st' := [sv_i ((-2))]) rfl ?_
            exact sv_iret C hr (by decide +kernel) hok18 (⟨⟨_, rfl, ⟨by omega, by omega⟩⟩, hI, hF⟩)
      · refine sv_go C.1 C.2.1 [(.bipush (-2), 2)] (pc' := 23) (by decide +kernel) rfl (lv' := [(0, sv_r a), (1, sv_i ar1), (2, sv_i ar2), (3, sv_i ar3), (4, sv_i ar4)]) (st' := [sv_i ((-2))]) rfl ?_
        exact sv_iret C hr (by decide +kernel) hok18 (⟨⟨_, rfl, ⟨by omega, by omega⟩⟩, hI, hF⟩)

theorem ml_X9_200 : Cond.methodLink RX9 200 yX9_isLong ∈ lw_good := sv_mem 911 (by decide +kernel) rfl
theorem co_X9_isLong : Cond.code yX9_isLong cX9_isLong 3 (some .boolean) ∈ lw_good := sv_mem 914 (by decide +kernel) rfl
theorem im_X9_isLong : Cond.instanceMethod yX9_isLong ∈ lw_good := sv_mem 913 (by decide +kernel) rfl
theorem se_X9_isLong : Cond.selects RX9 yX9_isLong yX9_isLong ∈ lw_good := sv_mem 35 (by decide +kernel) rfl
theorem ml_X9_203 : Cond.methodLink RX9 203 yX5_lastCorner ∈ lw_good := sv_mem 915 (by decide +kernel) rfl
theorem co_X5_lastCorner : Cond.code yX5_lastCorner cX5_lastCorner 1 (some .int) ∈ lw_good := sv_mem 918 (by decide +kernel) rfl
theorem im_X5_lastCorner : Cond.instanceMethod yX5_lastCorner ∈ lw_good := sv_mem 916 (by decide +kernel) rfl
theorem se_X5_lastCorner : Cond.selects RX5 yX5_lastCorner yX5_lastCorner ∈ lw_good := sv_mem 917 (by decide +kernel) rfl
theorem ml_X9_207 : Cond.methodLink RX9 207 yX8_minutesBetween ∈ lw_good := sv_mem 919 (by decide +kernel) rfl
theorem ml_X9_210 : Cond.methodLink RX9 210 yX5_goOn ∈ lw_good := sv_mem 920 (by decide +kernel) rfl
theorem co_X5_goOn : Cond.code yX5_goOn cX5_goOn 3 (some .boolean) ∈ lw_good := sv_mem 923 (by decide +kernel) rfl
theorem im_X5_goOn : Cond.instanceMethod yX5_goOn ∈ lw_good := sv_mem 921 (by decide +kernel) rfl
theorem se_X5_goOn : Cond.selects RX5 yX5_goOn yX5_goOn ∈ lw_good := sv_mem 922 (by decide +kernel) rfl
set_option maxHeartbeats 4000000 in
set_option maxRecDepth 100000 in
theorem sf_X9_goes (l : Launch) (g : sv_G) (A : Nat → Prop) (ty : Nat → Nat) (σ : Nat → Nat → Int) (hok : sv_ok ty σ) (hTA : ∀ q, ty q ≠ 0 → A q) (hI : sv_inv sp_1 ty σ) (a : Nat) (k_a : ty a = 1) (ar1 : Int) (h_ar1 : (-2147483648) ≤ ar1 ∧ ar1 ≤ 2147483647) (ar2 : Int) (h_ar2 : (-2147483648) ≤ ar2 ∧ ar2 ≤ 2147483647) : sv_M l yX9_goes cX9_goes 5 (some .int) { frames := 2, cells := 0, slots := 0, locals := 42 } g A ty σ [sv_r a, sv_i ar1, sv_i ar2] (fun r σ' => (∃ rv : Int, r = [sv_i rv] ∧ ((-3) ≤ rv ∧ rv ≤ 12)) ∧ sv_inv sp_1 ty σ' ∧ sv_ofx [(9, 0)] [40, 41] ty σ σ') := by
  refine sv_enter (by decide) (Nat.le_of_ble_eq_true rfl) ?_
  intro p e s m args below meth c C hr
  have C : sv_C g A RX9 cX9_goes 5 p s m args meth c := C
  have hr : meth.sig.returnType = (some .int) := hr
  have hF : sv_ofx [(9, 0)] [40, 41] ty σ σ := sv_ofx.rf
  refine sv_same (st2 := []) (lv2 := [(0, sv_r a), (1, sv_i ar1), (2, sv_i ar2)]) rfl rfl ?_
  refine sv_go C.1 C.2.1 [(.aload_n 0, 1), (.iload_n 1, 1), (.iconst 1, 1)] (pc' := 3) (by decide +kernel) rfl (lv' := [(0, sv_r a), (1, sv_i ar1), (2, sv_i ar2)]) (st' := [sv_i 1, sv_i ar1, sv_r a]) rfl ?_
  refine sv_cv C (index := 200) (k := 2) (rest := []) (ci := 8) (r := (RX9, TX9, 6)) (by decide +kernel) (sf_X9_isLong l g A ty σ hok hTA hI a k_a (ar1) ⟨by omega, by omega⟩ (1) ⟨by omega, by omega⟩) ⟨co_X9_isLong, in_X9, ⟨by decide, by decide, by decide +kernel⟩, Nat.le_of_ble_eq_true rfl, Nat.le_of_ble_eq_true rfl⟩ ml_X9_200 im_X9_isLong se_X9_isLong (by rw [k_a]; rfl) rfl rfl rfl (Nat.le_of_ble_eq_true rfl) ⟨Nat.zero_le _, Nat.zero_le _⟩ (fun r2 σ3 hpo1 hok4 => ?_)
  obtain ⟨rfl, ⟨vu5, rfl, hvu5, ivu5_0⟩⟩ := hpo1
  refine sv_same (st2 := [sv_i vu5]) (lv2 := [(0, sv_r a), (1, sv_i ar1), (2, sv_i ar2)]) rfl rfl ?_
  refine sv_if C.1 C.2.1 (cnd := .eq) (off := 10) (tgt := 16) (by decide +kernel) (by decide) ⟨by omega, by omega⟩ (fun (h6 : vu5 = 0) => ?_) (fun (h6 : ¬ (vu5 = 0)) => ?_)
  · refine sv_go C.1 C.2.1 [(.bipush (-2), 2)] (pc' := 18) (by decide +kernel) rfl (lv' := [(0, sv_r a), (1, sv_i ar1), (2, sv_i ar2)]) (st' := [sv_i ((-2))]) rfl ?_
    exact sv_iret C hr (by decide +kernel) hok4 (⟨⟨_, rfl, ⟨by omega, by omega⟩⟩, hI, hF⟩)
  · have hp7 := ivu5_0 (by omega) (by omega)
    refine sv_go C.1 C.2.1 [(.iload_n 2, 1)] (pc' := 10) (by decide +kernel) rfl (lv' := [(0, sv_r a), (1, sv_i ar1), (2, sv_i ar2)]) (st' := [sv_i ar2]) rfl ?_
    refine sv_cs C (index := 177) (k := 1) (rest := []) (by decide +kernel) (sf_X9_isCorner l g A ty σ hok4 hTA hI (ar2) ⟨by omega, by omega⟩) ⟨co_X9_isCorner, in_X9, ⟨by decide, by decide, by decide +kernel⟩, Nat.le_of_ble_eq_true rfl, Nat.le_of_ble_eq_true rfl⟩ ml_X9_177 st_X9_isCorner rfl rfl (Nat.le_of_ble_eq_true rfl) ⟨Nat.zero_le _, Nat.zero_le _⟩ (fun r9 σ10 hpo8 hok11 => ?_)
    obtain ⟨rfl, ⟨vu12, rfl, hvu12, ivu12_0⟩⟩ := hpo8
    refine sv_same (st2 := [sv_i vu12]) (lv2 := [(0, sv_r a), (1, sv_i ar1), (2, sv_i ar2)]) rfl rfl ?_
    refine sv_if C.1 C.2.1 (cnd := .ne) (off := 6) (tgt := 19) (by decide +kernel) (by decide) ⟨by omega, by omega⟩ (fun (h13 : vu12 ≠ 0) => ?_) (fun (h13 : ¬ (vu12 ≠ 0)) => ?_)
    · have hp14 := ivu12_0 (by omega) (by omega)
      refine sv_go C.1 C.2.1 [(.aload_n 0, 1)] (pc' := 20) (by decide +kernel) rfl (lv' := [(0, sv_r a), (1, sv_i ar1), (2, sv_i ar2)]) (st' := [sv_r a]) rfl ?_
      obtain ⟨v15, ev15, kv15⟩ := hI.ref (k := 4) k_a rfl
      refine sv_gf C (index := 40) (ci := 8) (k := 4) (r := (RX9, TX9, 6)) (v := sv_r v15) (by decide +kernel) (by rw [k_a]; rfl) rfl (by decide) fl_X9_40 (congrArg sv_a ev15) ?_
      obtain ⟨v16, ev16, kv16⟩ := hI.ref (k := 0) kv15 rfl
      refine sv_gf C (index := 190) (ci := 7) (k := 0) (r := (RX8, TX8, 4)) (v := sv_r v16) (by decide +kernel) (by rw [kv15]; rfl) rfl (by decide) fl_X9_190 (congrArg sv_a ev16) ?_
      refine sv_go C.1 C.2.1 [(.iload_n 1, 1)] (pc' := 27) (by decide +kernel) rfl (lv' := [(0, sv_r a), (1, sv_i ar1), (2, sv_i ar2)]) (st' := [sv_i ar1, sv_r v16]) rfl ?_
      refine sv_aa C (N := "SaintsRoad$Procession") (by decide) (n := 12) (by decide +kernel) (by rw [kv16]; rfl) (by decide) (by omega) (by omega) ?_
      obtain ⟨v17, ev17, kv17⟩ := hI.ref (k := (ar1 : Int).toNat) kv16 (by first | rfl | (show (if _ then _ else _) = _; rw [if_pos (by omega)]))
      rw [ev17]
      refine sv_go C.1 C.2.1 [(.astore_n 3, 1), (.aload_n 0, 1)] (pc' := 30) (by decide +kernel) rfl (lv' := [(0, sv_r a), (1, sv_i ar1), (2, sv_i ar2), (3, sv_r v17)]) (st' := [sv_r a]) rfl ?_
      refine sv_gf C (index := 40) (ci := 8) (k := 4) (r := (RX9, TX9, 6)) (v := sv_r v15) (by decide +kernel) (by rw [k_a]; rfl) rfl (by decide) fl_X9_40 (congrArg sv_a ev15) ?_
      refine sv_go C.1 C.2.1 [(.aload_n 3, 1)] (pc' := 34) (by decide +kernel) rfl (lv' := [(0, sv_r a), (1, sv_i ar1), (2, sv_i ar2), (3, sv_r v17)]) (st' := [sv_r v17, sv_r v15]) rfl ?_
      refine sv_cv C (index := 203) (k := 0) (rest := [sv_r v15]) (ci := 4) (r := (RX5, TX5, 5)) (by decide +kernel) (sf_X5_lastCorner l g A ty σ hok11 hTA hI v17 kv17) ⟨co_X5_lastCorner, in_X5, ⟨by decide, by decide, by decide +kernel⟩, Nat.le_of_ble_eq_true rfl, Nat.le_of_ble_eq_true rfl⟩ ml_X9_203 im_X5_lastCorner se_X5_lastCorner (by rw [kv17]; rfl) rfl rfl rfl (Nat.le_of_ble_eq_true rfl) ⟨Nat.zero_le _, Nat.zero_le _⟩ (fun r19 σ20 hpo18 hok21 => ?_)
      obtain ⟨rfl, ⟨vu22, rfl, hvu22⟩⟩ := hpo18
      refine sv_same (st2 := [sv_i vu22, sv_r v15]) (lv2 := [(0, sv_r a), (1, sv_i ar1), (2, sv_i ar2), (3, sv_r v17)]) rfl rfl ?_
      refine sv_go C.1 C.2.1 [(.iload_n 2, 1)] (pc' := 38) (by decide +kernel) rfl (lv' := [(0, sv_r a), (1, sv_i ar1), (2, sv_i ar2), (3, sv_r v17)]) (st' := [sv_i ar2, sv_i vu22, sv_r v15]) rfl ?_
      refine sv_cv C (index := 207) (k := 2) (rest := []) (ci := 7) (r := (RX8, TX8, 4)) (by decide +kernel) (sf_X8_minutesBetween l g A ty σ hok21 hTA hI v15 kv15 (vu22) ⟨by omega, by omega⟩ (ar2) ⟨by omega, by omega⟩) ⟨co_X8_minutesBetween, in_X8, ⟨by decide, by decide, by decide +kernel⟩, Nat.le_of_ble_eq_true rfl, Nat.le_of_ble_eq_true rfl⟩ ml_X9_207 im_X8_minutesBetween se_X8_minutesBetween (by rw [kv15]; rfl) rfl rfl rfl (Nat.le_of_ble_eq_true rfl) ⟨Nat.zero_le _, Nat.zero_le _⟩ (fun r24 σ25 hpo23 hok26 => ?_)
      obtain ⟨rfl, ⟨vu27, rfl, hvu27⟩⟩ := hpo23
      refine sv_same (st2 := [sv_i vu27]) (lv2 := [(0, sv_r a), (1, sv_i ar1), (2, sv_i ar2), (3, sv_r v17)]) rfl rfl ?_
      refine sv_go C.1 C.2.1 [(.istore 4, 2), (.iload 4, 2)] (pc' := 45) (by decide +kernel) rfl (lv' := [(0, sv_r a), (1, sv_i ar1), (2, sv_i ar2), (3, sv_r v17), (4, sv_i vu27)]) (st' := [sv_i vu27]) rfl ?_
      refine sv_if C.1 C.2.1 (cnd := .ne) (off := 5) (tgt := 50) (by decide +kernel) (by decide) ⟨by omega, by omega⟩ (fun (h28 : vu27 ≠ 0) => ?_) (fun (h28 : ¬ (vu27 ≠ 0)) => ?_)
      · refine sv_go C.1 C.2.1 [(.aload_n 3, 1), (.iload_n 2, 1), (.iload 4, 2)] (pc' := 54) (by decide +kernel) rfl (lv' := [(0, sv_r a), (1, sv_i ar1), (2, sv_i ar2), (3, sv_r v17), (4, sv_i vu27)]) (st' := [sv_i vu27, sv_i ar2, sv_r v17]) rfl ?_
        refine sv_cv C (index := 210) (k := 2) (rest := []) (ci := 4) (r := (RX5, TX5, 5)) (by decide +kernel) (sf_X5_goOn l g A ty σ hok26 hTA hI v17 kv17 (ar2) ⟨by omega, by omega⟩ (vu27) ⟨by omega, by omega⟩) ⟨co_X5_goOn, in_X5, ⟨by decide, by decide, by decide +kernel⟩, Nat.le_of_ble_eq_true rfl, Nat.le_of_ble_eq_true rfl⟩ ml_X9_210 im_X5_goOn se_X5_goOn (by rw [kv17]; rfl) rfl rfl rfl (Nat.le_of_ble_eq_true rfl) ⟨Nat.zero_le _, Nat.zero_le _⟩ (fun r30 σ31 hpo29 hok32 => ?_)
        obtain ⟨⟨vu33, rfl, hvu33⟩, hIu33, hFu33⟩ := hpo29
        have hGu33 := hF.tr hFu33 (by decide) (by decide)
        have t34 : σ31 a 4 = (v15 : Int) + 1 := (hFu33.at k_a (by decide) (by decide)).trans ev15
        have t35 : σ31 v15 0 = (v16 : Int) + 1 := (hFu33.at kv15 (by decide) (by decide)).trans ev16
        have t36 : σ31 v16 (ar1 : Int).toNat = (v17 : Int) + 1 := (hFu33.atA kv16 (by decide) (by decide)).trans ev17
        refine sv_same (st2 := [sv_i vu33]) (lv2 := [(0, sv_r a), (1, sv_i ar1), (2, sv_i ar2), (3, sv_r v17), (4, sv_i vu27)]) rfl rfl ?_
        refine sv_if C.1 C.2.1 (cnd := .eq) (off := 10) (tgt := 67) (by decide +kernel) (by decide) ⟨by omega, by omega⟩ (fun (h37 : vu33 = 0) => ?_) (fun (h37 : ¬ (vu33 = 0)) => ?_)
        · refine sv_go C.1 C.2.1 [(.bipush (-3), 2)] (pc' := 69) (by decide +kernel) rfl (lv' := [(0, sv_r a), (1, sv_i ar1), (2, sv_i ar2), (3, sv_r v17), (4, sv_i vu27)]) (st' := [sv_i ((-3))]) rfl ?_
          exact sv_iret C hr (by decide +kernel) hok32 (⟨⟨_, rfl, ⟨by omega, by omega⟩⟩, hIu33, hGu33⟩)
        · refine sv_go C.1 C.2.1 [(.aload_n 3, 1)] (pc' := 61) (by decide +kernel) rfl (lv' := [(0, sv_r a), (1, sv_i ar1), (2, sv_i ar2), (3, sv_r v17), (4, sv_i vu27)]) (st' := [sv_r v17]) rfl ?_
          obtain ⟨v38, ev38, hv38⟩ := sv_rdn hIu33 (k := 0) kv17 rfl
          refine sv_gf C (index := 213) (ci := 4) (k := 0) (r := (RX5, TX5, 5)) (v := sv_i v38) (by decide +kernel) (by rw [kv17]; rfl) rfl (by decide) fl_X9_213 (congrArg sv_i ev38) ?_
          refine sv_goto C.1 C.2.1 (off := 5) (tgt := 69) (by decide +kernel) (by decide) ?_
          exact sv_iret C hr (by decide +kernel) hok32 (⟨⟨_, rfl, ⟨by omega, by omega⟩⟩, hIu33, hGu33⟩)
      · refine sv_go C.1 C.2.1 [(.iconst (-1), 1)] (pc' := 49) (by decide +kernel) rfl (lv' := [(0, sv_r a), (1, sv_i ar1), (2, sv_i ar2), (3, sv_r v17), (4, sv_i vu27)]) (st' := [sv_i ((-1))]) rfl ?_
        exact sv_iret C hr (by decide +kernel) hok26 (⟨⟨_, rfl, ⟨by omega, by omega⟩⟩, hI, hF⟩)
    · refine sv_go C.1 C.2.1 [(.bipush (-2), 2)] (pc' := 18) (by decide +kernel) rfl (lv' := [(0, sv_r a), (1, sv_i ar1), (2, sv_i ar2)]) (st' := [sv_i ((-2))]) rfl ?_
      exact sv_iret C hr (by decide +kernel) hok11 (⟨⟨_, rfl, ⟨by omega, by omega⟩⟩, hI, hF⟩)

theorem fl_X9_214 : Cond.fieldLink RX9 214 "SaintsRoad$Procession" "beginning" "I" ∈ lw_good := sv_mem 374 (by decide +kernel) rfl
set_option maxHeartbeats 4000000 in
set_option maxRecDepth 100000 in
theorem sf_X9_late (l : Launch) (g : sv_G) (A : Nat → Prop) (ty : Nat → Nat) (σ : Nat → Nat → Int) (hok : sv_ok ty σ) (hTA : ∀ q, ty q ≠ 0 → A q) (hI : sv_inv sp_1 ty σ) (a : Nat) (k_a : ty a = 1) (ar1 : Int) (h_ar1 : (-2147483648) ≤ ar1 ∧ ar1 ≤ 2147483647) (ar2 : Int) (h_ar2 : (-2147483648) ≤ ar2 ∧ ar2 ≤ 2147483647) : sv_M l yX9_late cX9_late 4 (some .int) { frames := 2, cells := 0, slots := 0, locals := 42 } g A ty σ [sv_r a, sv_i ar1, sv_i ar2] (fun r σ' => (∃ rv : Int, r = [sv_i rv] ∧ ((-2) ≤ rv ∧ rv ≤ 1739)) ∧ sv_inv sp_1 ty σ' ∧ sv_ofx [(9, 1)] [] ty σ σ') := by
  refine sv_enter (by decide) (Nat.le_of_ble_eq_true rfl) ?_
  intro p e s m args below meth c C hr
  have C : sv_C g A RX9 cX9_late 4 p s m args meth c := C
  have hr : meth.sig.returnType = (some .int) := hr
  have hF : sv_ofx [(9, 1)] [] ty σ σ := sv_ofx.rf
  refine sv_same (st2 := []) (lv2 := [(0, sv_r a), (1, sv_i ar1), (2, sv_i ar2)]) rfl rfl ?_
  refine sv_go C.1 C.2.1 [(.aload_n 0, 1), (.iload_n 1, 1), (.iconst 1, 1)] (pc' := 3) (by decide +kernel) rfl (lv' := [(0, sv_r a), (1, sv_i ar1), (2, sv_i ar2)]) (st' := [sv_i 1, sv_i ar1, sv_r a]) rfl ?_
  refine sv_cv C (index := 200) (k := 2) (rest := []) (ci := 8) (r := (RX9, TX9, 6)) (by decide +kernel) (sf_X9_isLong l g A ty σ hok hTA hI a k_a (ar1) ⟨by omega, by omega⟩ (1) ⟨by omega, by omega⟩) ⟨co_X9_isLong, in_X9, ⟨by decide, by decide, by decide +kernel⟩, Nat.le_of_ble_eq_true rfl, Nat.le_of_ble_eq_true rfl⟩ ml_X9_200 im_X9_isLong se_X9_isLong (by rw [k_a]; rfl) rfl rfl rfl (Nat.le_of_ble_eq_true rfl) ⟨Nat.zero_le _, Nat.zero_le _⟩ (fun r2 σ3 hpo1 hok4 => ?_)
  obtain ⟨rfl, ⟨vu5, rfl, hvu5, ivu5_0⟩⟩ := hpo1
  refine sv_same (st2 := [sv_i vu5]) (lv2 := [(0, sv_r a), (1, sv_i ar1), (2, sv_i ar2)]) rfl rfl ?_
  refine sv_if C.1 C.2.1 (cnd := .eq) (off := 15) (tgt := 21) (by decide +kernel) (by decide) ⟨by omega, by omega⟩ (fun (h6 : vu5 = 0) => ?_) (fun (h6 : ¬ (vu5 = 0)) => ?_)
  · refine sv_go C.1 C.2.1 [(.bipush (-2), 2)] (pc' := 23) (by decide +kernel) rfl (lv' := [(0, sv_r a), (1, sv_i ar1), (2, sv_i ar2)]) (st' := [sv_i ((-2))]) rfl ?_
    exact sv_iret C hr (by decide +kernel) hok4 (⟨⟨_, rfl, ⟨by omega, by omega⟩⟩, hI, hF⟩)
  · have hp7 := ivu5_0 (by omega) (by omega)
    refine sv_go C.1 C.2.1 [(.iload_n 2, 1), (.iconst 1, 1)] (pc' := 11) (by decide +kernel) rfl (lv' := [(0, sv_r a), (1, sv_i ar1), (2, sv_i ar2)]) (st' := [sv_i 1, sv_i ar2]) rfl ?_
    refine sv_icmp C.1 C.2.1 (cnd := .lt) (off := 10) (tgt := 21) (by decide +kernel) (by decide) ⟨by omega, by omega⟩ ⟨by omega, by omega⟩ (fun (h8 : ar2 < 1) => ?_) (fun (h8 : ¬ (ar2 < 1)) => ?_)
    · refine sv_go C.1 C.2.1 [(.bipush (-2), 2)] (pc' := 23) (by decide +kernel) rfl (lv' := [(0, sv_r a), (1, sv_i ar1), (2, sv_i ar2)]) (st' := [sv_i ((-2))]) rfl ?_
      exact sv_iret C hr (by decide +kernel) hok4 (⟨⟨_, rfl, ⟨by omega, by omega⟩⟩, hI, hF⟩)
    · refine sv_go C.1 C.2.1 [(.iload_n 2, 1), (.sipush 300, 3)] (pc' := 18) (by decide +kernel) rfl (lv' := [(0, sv_r a), (1, sv_i ar1), (2, sv_i ar2)]) (st' := [sv_i 300, sv_i ar2]) rfl ?_
      refine sv_icmp C.1 C.2.1 (cnd := .le) (off := 6) (tgt := 24) (by decide +kernel) (by decide) ⟨by omega, by omega⟩ ⟨by omega, by omega⟩ (fun (h9 : ar2 ≤ 300) => ?_) (fun (h9 : ¬ (ar2 ≤ 300)) => ?_)
      · refine sv_go C.1 C.2.1 [(.aload_n 0, 1)] (pc' := 25) (by decide +kernel) rfl (lv' := [(0, sv_r a), (1, sv_i ar1), (2, sv_i ar2)]) (st' := [sv_r a]) rfl ?_
        obtain ⟨v10, ev10, kv10⟩ := hI.ref (k := 4) k_a rfl
        refine sv_gf C (index := 40) (ci := 8) (k := 4) (r := (RX9, TX9, 6)) (v := sv_r v10) (by decide +kernel) (by rw [k_a]; rfl) rfl (by decide) fl_X9_40 (congrArg sv_a ev10) ?_
        obtain ⟨v11, ev11, kv11⟩ := hI.ref (k := 0) kv10 rfl
        refine sv_gf C (index := 190) (ci := 7) (k := 0) (r := (RX8, TX8, 4)) (v := sv_r v11) (by decide +kernel) (by rw [kv10]; rfl) rfl (by decide) fl_X9_190 (congrArg sv_a ev11) ?_
        refine sv_go C.1 C.2.1 [(.iload_n 1, 1)] (pc' := 32) (by decide +kernel) rfl (lv' := [(0, sv_r a), (1, sv_i ar1), (2, sv_i ar2)]) (st' := [sv_i ar1, sv_r v11]) rfl ?_
        refine sv_aa C (N := "SaintsRoad$Procession") (by decide) (n := 12) (by decide +kernel) (by rw [kv11]; rfl) (by decide) (by omega) (by omega) ?_
        obtain ⟨v12, ev12, kv12⟩ := hI.ref (k := (ar1 : Int).toNat) kv11 (by first | rfl | (show (if _ then _ else _) = _; rw [if_pos (by omega)]))
        rw [ev12]
        refine sv_go C.1 C.2.1 [(.astore_n 3, 1), (.aload_n 3, 1)] (pc' := 35) (by decide +kernel) rfl (lv' := [(0, sv_r a), (1, sv_i ar1), (2, sv_i ar2), (3, sv_r v12)]) (st' := [sv_r v12]) rfl ?_
        obtain ⟨v13, ev13, hv13⟩ := sv_rdn hI (k := 1) kv12 rfl
        refine sv_gf C (index := 214) (ci := 4) (k := 1) (r := (RX5, TX5, 5)) (v := sv_i v13) (by decide +kernel) (by rw [kv12]; rfl) rfl (by decide) fl_X9_214 (congrArg sv_i ev13) ?_
        refine sv_go C.1 C.2.1 [(.iload_n 2, 1), (.iadd, 1), (.sipush 1440, 3)] (pc' := 43) (by decide +kernel) rfl (lv' := [(0, sv_r a), (1, sv_i ar1), (2, sv_i ar2), (3, sv_r v12)]) (st' := [sv_i 1440, sv_i (v13 + ar2)]) rfl ?_
        refine sv_icmp C.1 C.2.1 (cnd := .le) (off := 6) (tgt := 49) (by decide +kernel) (by decide) ⟨by omega, by omega⟩ ⟨by omega, by omega⟩ (fun (h14 : (v13 + ar2) ≤ 1440) => ?_) (fun (h14 : ¬ ((v13 + ar2) ≤ 1440)) => ?_)
        · refine sv_go C.1 C.2.1 [(.aload_n 3, 1), (.dup, 1)] (pc' := 51) (by decide +kernel) rfl (lv' := [(0, sv_r a), (1, sv_i ar1), (2, sv_i ar2), (3, sv_r v12)]) (st' := [sv_r v12, sv_r v12]) rfl ?_
          refine sv_gf C (index := 214) (ci := 4) (k := 1) (r := (RX5, TX5, 5)) (v := sv_i v13) (by decide +kernel) (by rw [kv12]; rfl) rfl (by decide) fl_X9_214 (congrArg sv_i ev13) ?_
          refine sv_go C.1 C.2.1 [(.iload_n 2, 1), (.iadd, 1)] (pc' := 56) (by decide +kernel) rfl (lv' := [(0, sv_r a), (1, sv_i ar1), (2, sv_i ar2), (3, sv_r v12)]) (st' := [sv_i (v13 + ar2), sv_r v12]) rfl ?_
          refine sv_pf C (index := 214) (ci := 4) (k := 1) (r := (RX5, TX5, 5)) (z := v13 + ar2) (by decide +kernel) (by rw [kv12]; rfl) rfl (by decide) rfl fl_X9_214 rfl (Or.inl rfl) ⟨by omega, by omega⟩ (hTA _ (by rw [kv12]; decide)) hok4 (fun hok15 => ?_)
          have hI17 := hI.up (a := v12) (k := 1) (z := v13 + ar2) (by rw [kv12]; exact ⟨by omega, by omega⟩)
          have hF18 := hF.up (a := v12) (k := 1) (z := v13 + ar2) (Or.inr (by rw [kv12]; decide))
          generalize eσ16 : sv_up σ v12 1 (v13 + ar2) = σ16 at hok15 hI17 hF18 ⊢
          have t19 : σ16 a 4 = (v10 : Int) + 1 := by rw [← eσ16, sv_up_a (sv_ne k_a kv12 (by decide))]; exact ev10
          have t20 : σ16 v10 0 = (v11 : Int) + 1 := by rw [← eσ16, sv_up_a (sv_ne kv10 kv12 (by decide))]; exact ev11
          have t21 : σ16 v11 (ar1 : Int).toNat = (v12 : Int) + 1 := by rw [← eσ16, sv_up_a (sv_ne kv11 kv12 (by decide))]; exact ev12
          have t22 : σ16 v12 1 = v13 + ar2 := by rw [← eσ16]; exact sv_up_s _ _ _ _
          refine sv_go C.1 C.2.1 [(.aload_n 3, 1)] (pc' := 60) (by decide +kernel) rfl (lv' := [(0, sv_r a), (1, sv_i ar1), (2, sv_i ar2), (3, sv_r v12)]) (st' := [sv_r v12]) rfl ?_
          refine sv_gf C (index := 214) (ci := 4) (k := 1) (r := (RX5, TX5, 5)) (v := sv_i (v13 + ar2)) (by decide +kernel) (by rw [kv12]; rfl) rfl (by decide) fl_X9_214 (congrArg sv_i t22) ?_
          exact sv_iret C hr (by decide +kernel) hok15 (⟨⟨_, rfl, ⟨by omega, by omega⟩⟩, hI17, hF18⟩)
        · refine sv_go C.1 C.2.1 [(.bipush (-2), 2)] (pc' := 48) (by decide +kernel) rfl (lv' := [(0, sv_r a), (1, sv_i ar1), (2, sv_i ar2), (3, sv_r v12)]) (st' := [sv_i ((-2))]) rfl ?_
          exact sv_iret C hr (by decide +kernel) hok4 (⟨⟨_, rfl, ⟨by omega, by omega⟩⟩, hI, hF⟩)
      · refine sv_go C.1 C.2.1 [(.bipush (-2), 2)] (pc' := 23) (by decide +kernel) rfl (lv' := [(0, sv_r a), (1, sv_i ar1), (2, sv_i ar2)]) (st' := [sv_i ((-2))]) rfl ?_
        exact sv_iret C hr (by decide +kernel) hok4 (⟨⟨_, rfl, ⟨by omega, by omega⟩⟩, hI, hF⟩)

theorem ml_X9_217 : Cond.methodLink RX9 217 yX5_tell ∈ lw_good := sv_mem 932 (by decide +kernel) rfl
theorem co_X5_tell : Cond.code yX5_tell cX5_tell 2 (some .int) ∈ lw_good := sv_mem 935 (by decide +kernel) rfl
theorem im_X5_tell : Cond.instanceMethod yX5_tell ∈ lw_good := sv_mem 933 (by decide +kernel) rfl
theorem se_X5_tell : Cond.selects RX5 yX5_tell yX5_tell ∈ lw_good := sv_mem 934 (by decide +kernel) rfl
set_option maxHeartbeats 4000000 in
set_option maxRecDepth 100000 in
theorem sf_X9_procession (l : Launch) (g : sv_G) (A : Nat → Prop) (ty : Nat → Nat) (σ : Nat → Nat → Int) (hok : sv_ok ty σ) (hTA : ∀ q, ty q ≠ 0 → A q) (hI : sv_inv sp_1 ty σ) (a : Nat) (k_a : ty a = 1) (ar1 : Int) (h_ar1 : (-2147483648) ≤ ar1 ∧ ar1 ≤ 2147483647) (ar2 : Int) (h_ar2 : (-2147483648) ≤ ar2 ∧ ar2 ≤ 2147483647) : sv_M l yX9_procession cX9_procession 3 (some .int) { frames := 2, cells := 0, slots := 0, locals := 42 } g A ty σ [sv_r a, sv_i ar1, sv_i ar2] (fun r σ' => σ = σ' ∧ ∃ rv : Int, r = [sv_i rv] ∧ ((-2147483648) ≤ rv ∧ rv ≤ 2147483647)) := by
  refine sv_enter (by decide) (Nat.le_of_ble_eq_true rfl) ?_
  intro p e s m args below meth c C hr
  have C : sv_C g A RX9 cX9_procession 3 p s m args meth c := C
  have hr : meth.sig.returnType = (some .int) := hr
  have hF : sv_ofx [] [] ty σ σ := sv_ofx.rf
  refine sv_same (st2 := []) (lv2 := [(0, sv_r a), (1, sv_i ar1), (2, sv_i ar2)]) rfl rfl ?_
  refine sv_go C.1 C.2.1 [(.aload_n 0, 1), (.iload_n 1, 1), (.iconst 1, 1)] (pc' := 3) (by decide +kernel) rfl (lv' := [(0, sv_r a), (1, sv_i ar1), (2, sv_i ar2)]) (st' := [sv_i 1, sv_i ar1, sv_r a]) rfl ?_
  refine sv_cv C (index := 200) (k := 2) (rest := []) (ci := 8) (r := (RX9, TX9, 6)) (by decide +kernel) (sf_X9_isLong l g A ty σ hok hTA hI a k_a (ar1) ⟨by omega, by omega⟩ (1) ⟨by omega, by omega⟩) ⟨co_X9_isLong, in_X9, ⟨by decide, by decide, by decide +kernel⟩, Nat.le_of_ble_eq_true rfl, Nat.le_of_ble_eq_true rfl⟩ ml_X9_200 im_X9_isLong se_X9_isLong (by rw [k_a]; rfl) rfl rfl rfl (Nat.le_of_ble_eq_true rfl) ⟨Nat.zero_le _, Nat.zero_le _⟩ (fun r2 σ3 hpo1 hok4 => ?_)
  obtain ⟨rfl, ⟨vu5, rfl, hvu5, ivu5_0⟩⟩ := hpo1
  refine sv_same (st2 := [sv_i vu5]) (lv2 := [(0, sv_r a), (1, sv_i ar1), (2, sv_i ar2)]) rfl rfl ?_
  refine sv_if C.1 C.2.1 (cnd := .eq) (off := 19) (tgt := 25) (by decide +kernel) (by decide) ⟨by omega, by omega⟩ (fun (h6 : vu5 = 0) => ?_) (fun (h6 : ¬ (vu5 = 0)) => ?_)
  · refine sv_go C.1 C.2.1 [(.iconst (-1), 1)] (pc' := 26) (by decide +kernel) rfl (lv' := [(0, sv_r a), (1, sv_i ar1), (2, sv_i ar2)]) (st' := [sv_i ((-1))]) rfl ?_
    exact sv_iret C hr (by decide +kernel) hok4 (⟨rfl, ⟨_, rfl, ⟨by omega, by omega⟩⟩⟩)
  · have hp7 := ivu5_0 (by omega) (by omega)
    refine sv_go C.1 C.2.1 [(.aload_n 0, 1)] (pc' := 10) (by decide +kernel) rfl (lv' := [(0, sv_r a), (1, sv_i ar1), (2, sv_i ar2)]) (st' := [sv_r a]) rfl ?_
    obtain ⟨v8, ev8, kv8⟩ := hI.ref (k := 4) k_a rfl
    refine sv_gf C (index := 40) (ci := 8) (k := 4) (r := (RX9, TX9, 6)) (v := sv_r v8) (by decide +kernel) (by rw [k_a]; rfl) rfl (by decide) fl_X9_40 (congrArg sv_a ev8) ?_
    obtain ⟨v9, ev9, kv9⟩ := hI.ref (k := 0) kv8 rfl
    refine sv_gf C (index := 190) (ci := 7) (k := 0) (r := (RX8, TX8, 4)) (v := sv_r v9) (by decide +kernel) (by rw [kv8]; rfl) rfl (by decide) fl_X9_190 (congrArg sv_a ev9) ?_
    refine sv_go C.1 C.2.1 [(.iload_n 1, 1)] (pc' := 17) (by decide +kernel) rfl (lv' := [(0, sv_r a), (1, sv_i ar1), (2, sv_i ar2)]) (st' := [sv_i ar1, sv_r v9]) rfl ?_
    refine sv_aa C (N := "SaintsRoad$Procession") (by decide) (n := 12) (by decide +kernel) (by rw [kv9]; rfl) (by decide) (by omega) (by omega) ?_
    obtain ⟨v10, ev10, kv10⟩ := hI.ref (k := (ar1 : Int).toNat) kv9 (by first | rfl | (show (if _ then _ else _) = _; rw [if_pos (by omega)]))
    rw [ev10]
    refine sv_go C.1 C.2.1 [(.iload_n 2, 1)] (pc' := 19) (by decide +kernel) rfl (lv' := [(0, sv_r a), (1, sv_i ar1), (2, sv_i ar2)]) (st' := [sv_i ar2, sv_r v10]) rfl ?_
    refine sv_cv C (index := 217) (k := 1) (rest := []) (ci := 4) (r := (RX5, TX5, 5)) (by decide +kernel) (sf_X5_tell l g A ty σ hok4 hTA hI v10 kv10 (ar2) ⟨by omega, by omega⟩) ⟨co_X5_tell, in_X5, ⟨by decide, by decide, by decide +kernel⟩, Nat.le_of_ble_eq_true rfl, Nat.le_of_ble_eq_true rfl⟩ ml_X9_217 im_X5_tell se_X5_tell (by rw [kv10]; rfl) rfl rfl rfl (Nat.le_of_ble_eq_true rfl) ⟨Nat.zero_le _, Nat.zero_le _⟩ (fun r12 σ13 hpo11 hok14 => ?_)
    obtain ⟨rfl, ⟨vu15, rfl, hvu15⟩⟩ := hpo11
    refine sv_same (st2 := [sv_i vu15]) (lv2 := [(0, sv_r a), (1, sv_i ar1), (2, sv_i ar2)]) rfl rfl ?_
    refine sv_goto C.1 C.2.1 (off := 4) (tgt := 26) (by decide +kernel) (by decide) ?_
    exact sv_iret C hr (by decide +kernel) hok14 (⟨rfl, ⟨_, rfl, ⟨by omega, by omega⟩⟩⟩)

theorem ml_X9_221 : Cond.methodLink RX9 221 yX5_firstMeeting ∈ lw_good := sv_mem 956 (by decide +kernel) rfl
theorem co_X5_firstMeeting : Cond.code yX5_firstMeeting cX5_firstMeeting 6 (some .int) ∈ lw_good := sv_mem 959 (by decide +kernel) rfl
theorem im_X5_firstMeeting : Cond.instanceMethod yX5_firstMeeting ∈ lw_good := sv_mem 957 (by decide +kernel) rfl
theorem se_X5_firstMeeting : Cond.selects RX5 yX5_firstMeeting yX5_firstMeeting ∈ lw_good := sv_mem 958 (by decide +kernel) rfl
set_option maxHeartbeats 4000000 in
set_option maxRecDepth 100000 in
theorem sf_X9_meeting (l : Launch) (g : sv_G) (A : Nat → Prop) (ty : Nat → Nat) (σ : Nat → Nat → Int) (hok : sv_ok ty σ) (hTA : ∀ q, ty q ≠ 0 → A q) (hI : sv_inv sp_1 ty σ) (a : Nat) (k_a : ty a = 1) (ar1 : Int) (h_ar1 : (-2147483648) ≤ ar1 ∧ ar1 ≤ 2147483647) (ar2 : Int) (h_ar2 : (-2147483648) ≤ ar2 ∧ ar2 ≤ 2147483647) : sv_M l yX9_meeting cX9_meeting 3 (some .int) { frames := 3, cells := 0, slots := 0, locals := 71 } g A ty σ [sv_r a, sv_i ar1, sv_i ar2] (fun r σ' => σ = σ' ∧ ∃ rv : Int, r = [sv_i rv] ∧ ((-2) ≤ rv ∧ rv ≤ 2147483647)) := by
  refine sv_enter (by decide) (Nat.le_of_ble_eq_true rfl) ?_
  intro p e s m args below meth c C hr
  have C : sv_C g A RX9 cX9_meeting 3 p s m args meth c := C
  have hr : meth.sig.returnType = (some .int) := hr
  have hF : sv_ofx [] [] ty σ σ := sv_ofx.rf
  refine sv_same (st2 := []) (lv2 := [(0, sv_r a), (1, sv_i ar1), (2, sv_i ar2)]) rfl rfl ?_
  refine sv_go C.1 C.2.1 [(.aload_n 0, 1), (.iload_n 1, 1), (.iconst 2, 1)] (pc' := 3) (by decide +kernel) rfl (lv' := [(0, sv_r a), (1, sv_i ar1), (2, sv_i ar2)]) (st' := [sv_i 2, sv_i ar1, sv_r a]) rfl ?_
  refine sv_cv C (index := 200) (k := 2) (rest := []) (ci := 8) (r := (RX9, TX9, 6)) (by decide +kernel) (sf_X9_isLong l g A ty σ hok hTA hI a k_a (ar1) ⟨by omega, by omega⟩ (2) ⟨by omega, by omega⟩) ⟨co_X9_isLong, in_X9, ⟨by decide, by decide, by decide +kernel⟩, Nat.le_of_ble_eq_true rfl, Nat.le_of_ble_eq_true rfl⟩ ml_X9_200 im_X9_isLong se_X9_isLong (by rw [k_a]; rfl) rfl rfl rfl (Nat.le_of_ble_eq_true rfl) ⟨Nat.zero_le _, Nat.zero_le _⟩ (fun r2 σ3 hpo1 hok4 => ?_)
  obtain ⟨rfl, ⟨vu5, rfl, hvu5, ivu5_0⟩⟩ := hpo1
  refine sv_same (st2 := [sv_i vu5]) (lv2 := [(0, sv_r a), (1, sv_i ar1), (2, sv_i ar2)]) rfl rfl ?_
  refine sv_if C.1 C.2.1 (cnd := .eq) (off := 17) (tgt := 23) (by decide +kernel) (by decide) ⟨by omega, by omega⟩ (fun (h6 : vu5 = 0) => ?_) (fun (h6 : ¬ (vu5 = 0)) => ?_)
  · refine sv_go C.1 C.2.1 [(.bipush (-2), 2)] (pc' := 25) (by decide +kernel) rfl (lv' := [(0, sv_r a), (1, sv_i ar1), (2, sv_i ar2)]) (st' := [sv_i ((-2))]) rfl ?_
    exact sv_iret C hr (by decide +kernel) hok4 (⟨rfl, ⟨_, rfl, ⟨by omega, by omega⟩⟩⟩)
  · have hp7 := ivu5_0 (by omega) (by omega)
    refine sv_go C.1 C.2.1 [(.aload_n 0, 1), (.iload_n 2, 1), (.iconst 2, 1)] (pc' := 12) (by decide +kernel) rfl (lv' := [(0, sv_r a), (1, sv_i ar1), (2, sv_i ar2)]) (st' := [sv_i 2, sv_i ar2, sv_r a]) rfl ?_
    refine sv_cv C (index := 200) (k := 2) (rest := []) (ci := 8) (r := (RX9, TX9, 6)) (by decide +kernel) (sf_X9_isLong l g A ty σ hok4 hTA hI a k_a (ar2) ⟨by omega, by omega⟩ (2) ⟨by omega, by omega⟩) ⟨co_X9_isLong, in_X9, ⟨by decide, by decide, by decide +kernel⟩, Nat.le_of_ble_eq_true rfl, Nat.le_of_ble_eq_true rfl⟩ ml_X9_200 im_X9_isLong se_X9_isLong (by rw [k_a]; rfl) rfl rfl rfl (Nat.le_of_ble_eq_true rfl) ⟨Nat.zero_le _, Nat.zero_le _⟩ (fun r9 σ10 hpo8 hok11 => ?_)
    obtain ⟨rfl, ⟨vu12, rfl, hvu12, ivu12_0⟩⟩ := hpo8
    refine sv_same (st2 := [sv_i vu12]) (lv2 := [(0, sv_r a), (1, sv_i ar1), (2, sv_i ar2)]) rfl rfl ?_
    refine sv_if C.1 C.2.1 (cnd := .eq) (off := 8) (tgt := 23) (by decide +kernel) (by decide) ⟨by omega, by omega⟩ (fun (h13 : vu12 = 0) => ?_) (fun (h13 : ¬ (vu12 = 0)) => ?_)
    · refine sv_go C.1 C.2.1 [(.bipush (-2), 2)] (pc' := 25) (by decide +kernel) rfl (lv' := [(0, sv_r a), (1, sv_i ar1), (2, sv_i ar2)]) (st' := [sv_i ((-2))]) rfl ?_
      exact sv_iret C hr (by decide +kernel) hok11 (⟨rfl, ⟨_, rfl, ⟨by omega, by omega⟩⟩⟩)
    · have hp14 := ivu12_0 (by omega) (by omega)
      refine sv_go C.1 C.2.1 [(.iload_n 1, 1), (.iload_n 2, 1)] (pc' := 20) (by decide +kernel) rfl (lv' := [(0, sv_r a), (1, sv_i ar1), (2, sv_i ar2)]) (st' := [sv_i ar2, sv_i ar1]) rfl ?_
      refine sv_icmp C.1 C.2.1 (cnd := .ne) (off := 6) (tgt := 26) (by decide +kernel) (by decide) ⟨by omega, by omega⟩ ⟨by omega, by omega⟩ (fun (h15 : ar1 ≠ ar2) => ?_) (fun (h15 : ¬ (ar1 ≠ ar2)) => ?_)
      · refine sv_go C.1 C.2.1 [(.aload_n 0, 1)] (pc' := 27) (by decide +kernel) rfl (lv' := [(0, sv_r a), (1, sv_i ar1), (2, sv_i ar2)]) (st' := [sv_r a]) rfl ?_
        obtain ⟨v16, ev16, kv16⟩ := hI.ref (k := 4) k_a rfl
        refine sv_gf C (index := 40) (ci := 8) (k := 4) (r := (RX9, TX9, 6)) (v := sv_r v16) (by decide +kernel) (by rw [k_a]; rfl) rfl (by decide) fl_X9_40 (congrArg sv_a ev16) ?_
        obtain ⟨v17, ev17, kv17⟩ := hI.ref (k := 0) kv16 rfl
        refine sv_gf C (index := 190) (ci := 7) (k := 0) (r := (RX8, TX8, 4)) (v := sv_r v17) (by decide +kernel) (by rw [kv16]; rfl) rfl (by decide) fl_X9_190 (congrArg sv_a ev17) ?_
        refine sv_go C.1 C.2.1 [(.iload_n 1, 1)] (pc' := 34) (by decide +kernel) rfl (lv' := [(0, sv_r a), (1, sv_i ar1), (2, sv_i ar2)]) (st' := [sv_i ar1, sv_r v17]) rfl ?_
        refine sv_aa C (N := "SaintsRoad$Procession") (by decide) (n := 12) (by decide +kernel) (by rw [kv17]; rfl) (by decide) (by omega) (by omega) ?_
        obtain ⟨v18, ev18, kv18⟩ := hI.ref (k := (ar1 : Int).toNat) kv17 (by first | rfl | (show (if _ then _ else _) = _; rw [if_pos (by omega)]))
        rw [ev18]
        refine sv_go C.1 C.2.1 [(.aload_n 0, 1)] (pc' := 36) (by decide +kernel) rfl (lv' := [(0, sv_r a), (1, sv_i ar1), (2, sv_i ar2)]) (st' := [sv_r a, sv_r v18]) rfl ?_
        refine sv_gf C (index := 40) (ci := 8) (k := 4) (r := (RX9, TX9, 6)) (v := sv_r v16) (by decide +kernel) (by rw [k_a]; rfl) rfl (by decide) fl_X9_40 (congrArg sv_a ev16) ?_
        refine sv_gf C (index := 190) (ci := 7) (k := 0) (r := (RX8, TX8, 4)) (v := sv_r v17) (by decide +kernel) (by rw [kv16]; rfl) rfl (by decide) fl_X9_190 (congrArg sv_a ev17) ?_
        refine sv_go C.1 C.2.1 [(.iload_n 2, 1)] (pc' := 43) (by decide +kernel) rfl (lv' := [(0, sv_r a), (1, sv_i ar1), (2, sv_i ar2)]) (st' := [sv_i ar2, sv_r v17, sv_r v18]) rfl ?_
        refine sv_aa C (N := "SaintsRoad$Procession") (by decide) (n := 12) (by decide +kernel) (by rw [kv17]; rfl) (by decide) (by omega) (by omega) ?_
        obtain ⟨v19, ev19, kv19⟩ := hI.ref (k := (ar2 : Int).toNat) kv17 (by first | rfl | (show (if _ then _ else _) = _; rw [if_pos (by omega)]))
        rw [ev19]
        refine sv_cv C (index := 221) (k := 1) (rest := []) (ci := 4) (r := (RX5, TX5, 5)) (by decide +kernel) (sf_X5_firstMeeting l g A ty σ hok11 hTA hI v18 kv18 v19 kv19) ⟨co_X5_firstMeeting, in_X5, ⟨by decide, by decide, by decide +kernel⟩, Nat.le_of_ble_eq_true rfl, Nat.le_of_ble_eq_true rfl⟩ ml_X9_221 im_X5_firstMeeting se_X5_firstMeeting (by rw [kv18]; rfl) rfl rfl rfl (Nat.le_of_ble_eq_true rfl) ⟨Nat.zero_le _, Nat.zero_le _⟩ (fun r21 σ22 hpo20 hok23 => ?_)
        obtain ⟨rfl, ⟨vu24, rfl, hvu24⟩⟩ := hpo20
        refine sv_same (st2 := [sv_i vu24]) (lv2 := [(0, sv_r a), (1, sv_i ar1), (2, sv_i ar2)]) rfl rfl ?_
        exact sv_iret C hr (by decide +kernel) hok23 (⟨rfl, ⟨_, rfl, ⟨by omega, by omega⟩⟩⟩)
      · refine sv_go C.1 C.2.1 [(.bipush (-2), 2)] (pc' := 25) (by decide +kernel) rfl (lv' := [(0, sv_r a), (1, sv_i ar1), (2, sv_i ar2)]) (st' := [sv_i ((-2))]) rfl ?_
        exact sv_iret C hr (by decide +kernel) hok11 (⟨rfl, ⟨_, rfl, ⟨by omega, by omega⟩⟩⟩)

theorem ml_X9_218 : Cond.methodLink RX9 218 yX9_meeting ∈ lw_good := sv_mem 952 (by decide +kernel) rfl
theorem co_X9_meeting : Cond.code yX9_meeting cX9_meeting 3 (some .int) ∈ lw_good := sv_mem 955 (by decide +kernel) rfl
theorem im_X9_meeting : Cond.instanceMethod yX9_meeting ∈ lw_good := sv_mem 953 (by decide +kernel) rfl
theorem se_X9_meeting : Cond.selects RX9 yX9_meeting yX9_meeting ∈ lw_good := sv_mem 954 (by decide +kernel) rfl
set_option maxHeartbeats 4000000 in
set_option maxRecDepth 100000 in
theorem sf_X9_meets (l : Launch) (g : sv_G) (A : Nat → Prop) (ty : Nat → Nat) (σ : Nat → Nat → Int) (hok : sv_ok ty σ) (hTA : ∀ q, ty q ≠ 0 → A q) (hI : sv_inv sp_1 ty σ) (a : Nat) (k_a : ty a = 1) : sv_M l yX9_meets cX9_meets 3 (some .int) { frames := 4, cells := 0, slots := 0, locals := 93 } g A ty σ [sv_r a] (fun r σ' => σ = σ' ∧ ∃ rv : Int, r = [sv_i rv] ∧ ((-1) ≤ rv ∧ rv ≤ 1111)) := by
  refine sv_enter (by decide) (Nat.le_of_ble_eq_true rfl) ?_
  intro p e s m args below meth c C hr
  have C : sv_C g A RX9 cX9_meets 3 p s m args meth c := C
  have hr : meth.sig.returnType = (some .int) := hr
  have hF : sv_ofx [] [] ty σ σ := sv_ofx.rf
  refine sv_same (st2 := []) (lv2 := [(0, sv_r a)]) rfl rfl ?_
  refine sv_go C.1 C.2.1 [(.iconst 0, 1), (.istore_n 1, 1)] (pc' := 2) (by decide +kernel) rfl (lv' := [(0, sv_r a), (1, sv_i 0)]) (st' := []) rfl ?_
  have L2 : ∀ (n : Nat) (Xg1_l1 : Int), (0 ≤ Xg1_l1 ∧ Xg1_l1 ≤ 12) → (12 - Xg1_l1) < (n : Int) → sv_E p l e { frames := 4, cells := 0, slots := 0, locals := 93 } s m args below meth c 3 g A ty (fun r σ' => σ = σ' ∧ ∃ rv : Int, r = [sv_i rv] ∧ ((-1) ≤ rv ∧ rv ≤ 1111)) σ 2 [(0, sv_r a), (1, sv_i Xg1_l1)] [] := by
    intro n
    induction n with
    | zero => intro Xg1_l1 hXg1_l1 hmu; exact absurd hmu (by omega)
    | succ n ih3 =>
      intro Xg1_l1 hXg1_l1 hmu
      refine sv_go C.1 C.2.1 [(.iload_n 1, 1), (.bipush 12, 2)] (pc' := 5) (by decide +kernel) rfl (lv' := [(0, sv_r a), (1, sv_i Xg1_l1)]) (st' := [sv_i 12, sv_i Xg1_l1]) rfl ?_
      refine sv_icmp C.1 C.2.1 (cnd := .ge) (off := 41) (tgt := 46) (by decide +kernel) (by decide) ⟨by omega, by omega⟩ ⟨by omega, by omega⟩ (fun (h4 : 12 ≤ Xg1_l1) => ?_) (fun (h4 : ¬ (12 ≤ Xg1_l1)) => ?_)
      · refine sv_go C.1 C.2.1 [(.iconst (-1), 1)] (pc' := 47) (by decide +kernel) rfl (lv' := [(0, sv_r a), (1, sv_i Xg1_l1)]) (st' := [sv_i ((-1))]) rfl ?_
        exact sv_iret C hr (by decide +kernel) hok (⟨rfl, ⟨_, rfl, ⟨by omega, by omega⟩⟩⟩)
      · refine sv_go C.1 C.2.1 [(.iload_n 1, 1), (.iconst 1, 1), (.iadd, 1), (.istore_n 2, 1)] (pc' := 12) (by decide +kernel) rfl (lv' := [(0, sv_r a), (1, sv_i Xg1_l1), (2, sv_i (Xg1_l1 + 1))]) (st' := []) rfl ?_
        have L6 : ∀ (n : Nat) (Xg5_l2 : Int), (1 ≤ Xg5_l2 ∧ Xg5_l2 ≤ 12) → (12 - Xg5_l2) < (n : Int) → sv_E p l e { frames := 4, cells := 0, slots := 0, locals := 93 } s m args below meth c 3 g A ty (fun r σ' => σ = σ' ∧ ∃ rv : Int, r = [sv_i rv] ∧ ((-1) ≤ rv ∧ rv ≤ 1111)) σ 12 [(0, sv_r a), (1, sv_i Xg1_l1), (2, sv_i Xg5_l2)] [] := by
          intro n
          induction n with
          | zero => intro Xg5_l2 hXg5_l2 hmu; exact absurd hmu (by omega)
          | succ n ih7 =>
            intro Xg5_l2 hXg5_l2 hmu
            refine sv_go C.1 C.2.1 [(.iload_n 2, 1), (.bipush 12, 2)] (pc' := 15) (by decide +kernel) rfl (lv' := [(0, sv_r a), (1, sv_i Xg1_l1), (2, sv_i Xg5_l2)]) (st' := [sv_i 12, sv_i Xg5_l2]) rfl ?_
            refine sv_icmp C.1 C.2.1 (cnd := .ge) (off := 25) (tgt := 40) (by decide +kernel) (by decide) ⟨by omega, by omega⟩ ⟨by omega, by omega⟩ (fun (h8 : 12 ≤ Xg5_l2) => ?_) (fun (h8 : ¬ (12 ≤ Xg5_l2)) => ?_)
            · refine sv_go C.1 C.2.1 [(.iinc 1 1, 3)] (pc' := 43) (by decide +kernel) rfl (lv' := [(0, sv_r a), (1, sv_i (Xg1_l1 + 1)), (2, sv_i Xg5_l2)]) (st' := []) rfl ?_
              refine sv_goto C.1 C.2.1 (off := (-41)) (tgt := 2) (by decide +kernel) (by decide) ?_
              refine sv_pick [0, 1] (lv2 := [(0, sv_r a), (1, sv_i (Xg1_l1 + 1))]) rfl ?_
              exact ih3 (Xg1_l1 + 1) ⟨by omega, by omega⟩ (by omega)
            · refine sv_go C.1 C.2.1 [(.aload_n 0, 1), (.iload_n 1, 1), (.iload_n 2, 1)] (pc' := 21) (by decide +kernel) rfl (lv' := [(0, sv_r a), (1, sv_i Xg1_l1), (2, sv_i Xg5_l2)]) (st' := [sv_i Xg5_l2, sv_i Xg1_l1, sv_r a]) rfl ?_
              refine sv_cv C (index := 218) (k := 2) (rest := []) (ci := 8) (r := (RX9, TX9, 6)) (by decide +kernel) (sf_X9_meeting l g A ty σ hok hTA hI a k_a (Xg1_l1) ⟨by omega, by omega⟩ (Xg5_l2) ⟨by omega, by omega⟩) ⟨co_X9_meeting, in_X9, ⟨by decide, by decide, by decide +kernel⟩, Nat.le_of_ble_eq_true rfl, Nat.le_of_ble_eq_true rfl⟩ ml_X9_218 im_X9_meeting se_X9_meeting (by rw [k_a]; rfl) rfl rfl rfl (Nat.le_of_ble_eq_true rfl) ⟨Nat.zero_le _, Nat.zero_le _⟩ (fun r10 σ11 hpo9 hok12 => ?_)
              obtain ⟨rfl, ⟨vu13, rfl, hvu13⟩⟩ := hpo9
              refine sv_same (st2 := [sv_i vu13]) (lv2 := [(0, sv_r a), (1, sv_i Xg1_l1), (2, sv_i Xg5_l2)]) rfl rfl ?_
              refine sv_if C.1 C.2.1 (cnd := .lt) (off := 10) (tgt := 34) (by decide +kernel) (by decide) ⟨by omega, by omega⟩ (fun (h14 : vu13 < 0) => ?_) (fun (h14 : ¬ (vu13 < 0)) => ?_)
              · refine sv_go C.1 C.2.1 [(.iinc 2 1, 3)] (pc' := 37) (by decide +kernel) rfl (lv' := [(0, sv_r a), (1, sv_i Xg1_l1), (2, sv_i (Xg5_l2 + 1))]) (st' := []) rfl ?_
                refine sv_goto C.1 C.2.1 (off := (-25)) (tgt := 12) (by decide +kernel) (by decide) ?_
                exact ih7 (Xg5_l2 + 1) ⟨by omega, by omega⟩ (by omega)
              · refine sv_go C.1 C.2.1 [(.bipush 100, 2), (.iload_n 1, 1), (.imul, 1), (.iload_n 2, 1), (.iadd, 1)] (pc' := 33) (by decide +kernel) rfl (lv' := [(0, sv_r a), (1, sv_i Xg1_l1), (2, sv_i Xg5_l2)]) (st' := [sv_i ((100 * Xg1_l1) + Xg5_l2)]) rfl ?_
                exact sv_iret C hr (by decide +kernel) hok12 (⟨rfl, ⟨_, rfl, ⟨by omega, by omega⟩⟩⟩)
        exact L6 (((12 - (Xg1_l1 + 1) : Int)).toNat + 1) (Xg1_l1 + 1) ⟨by omega, by omega⟩ (by omega)
  exact L2 (((12 - 0 : Int)).toNat + 1) 0 ⟨by omega, by omega⟩ (by omega)

theorem ml_X9_225 : Cond.methodLink RX9 225 yX8_firstFree ∈ lw_good := sv_mem 979 (by decide +kernel) rfl
theorem co_X8_firstFree : Cond.code yX8_firstFree cX8_firstFree 5 (some .int) ∈ lw_good := sv_mem 982 (by decide +kernel) rfl
theorem im_X8_firstFree : Cond.instanceMethod yX8_firstFree ∈ lw_good := sv_mem 980 (by decide +kernel) rfl
theorem se_X8_firstFree : Cond.selects RX8 yX8_firstFree yX8_firstFree ∈ lw_good := sv_mem 981 (by decide +kernel) rfl
set_option maxHeartbeats 4000000 in
set_option maxRecDepth 100000 in
theorem sf_X9_timed (l : Launch) (g : sv_G) (A : Nat → Prop) (ty : Nat → Nat) (σ : Nat → Nat → Int) (hok : sv_ok ty σ) (hTA : ∀ q, ty q ≠ 0 → A q) (hI : sv_inv sp_1 ty σ) (a : Nat) (k_a : ty a = 1) (ar1 : Int) (h_ar1 : (-2147483648) ≤ ar1 ∧ ar1 ≤ 2147483647) (ar2 : Int) (h_ar2 : (-2147483648) ≤ ar2 ∧ ar2 ≤ 2147483647) : sv_M l yX9_timed cX9_timed 3 (some .int) { frames := 3, cells := 0, slots := 0, locals := 73 } g A ty σ [sv_r a, sv_i ar1, sv_i ar2] (fun r σ' => (∃ rv : Int, r = [sv_i rv] ∧ ((-2) ≤ rv ∧ rv ≤ 1440)) ∧ sv_inv sp_1 ty σ' ∧ sv_ofx [] [39] ty σ σ') := by
  refine sv_enter (by decide) (Nat.le_of_ble_eq_true rfl) ?_
  intro p e s m args below meth c C hr
  have C : sv_C g A RX9 cX9_timed 3 p s m args meth c := C
  have hr : meth.sig.returnType = (some .int) := hr
  have hF : sv_ofx [] [39] ty σ σ := sv_ofx.rf
  refine sv_same (st2 := []) (lv2 := [(0, sv_r a), (1, sv_i ar1), (2, sv_i ar2)]) rfl rfl ?_
  refine sv_go C.1 C.2.1 [(.aload_n 0, 1), (.iload_n 1, 1), (.iconst 2, 1)] (pc' := 3) (by decide +kernel) rfl (lv' := [(0, sv_r a), (1, sv_i ar1), (2, sv_i ar2)]) (st' := [sv_i 2, sv_i ar1, sv_r a]) rfl ?_
  refine sv_cv C (index := 200) (k := 2) (rest := []) (ci := 8) (r := (RX9, TX9, 6)) (by decide +kernel) (sf_X9_isLong l g A ty σ hok hTA hI a k_a (ar1) ⟨by omega, by omega⟩ (2) ⟨by omega, by omega⟩) ⟨co_X9_isLong, in_X9, ⟨by decide, by decide, by decide +kernel⟩, Nat.le_of_ble_eq_true rfl, Nat.le_of_ble_eq_true rfl⟩ ml_X9_200 im_X9_isLong se_X9_isLong (by rw [k_a]; rfl) rfl rfl rfl (Nat.le_of_ble_eq_true rfl) ⟨Nat.zero_le _, Nat.zero_le _⟩ (fun r2 σ3 hpo1 hok4 => ?_)
  obtain ⟨rfl, ⟨vu5, rfl, hvu5, ivu5_0⟩⟩ := hpo1
  refine sv_same (st2 := [sv_i vu5]) (lv2 := [(0, sv_r a), (1, sv_i ar1), (2, sv_i ar2)]) rfl rfl ?_
  refine sv_if C.1 C.2.1 (cnd := .eq) (off := 10) (tgt := 16) (by decide +kernel) (by decide) ⟨by omega, by omega⟩ (fun (h6 : vu5 = 0) => ?_) (fun (h6 : ¬ (vu5 = 0)) => ?_)
  · refine sv_go C.1 C.2.1 [(.bipush (-2), 2)] (pc' := 18) (by decide +kernel) rfl (lv' := [(0, sv_r a), (1, sv_i ar1), (2, sv_i ar2)]) (st' := [sv_i ((-2))]) rfl ?_
    exact sv_iret C hr (by decide +kernel) hok4 (⟨⟨_, rfl, ⟨by omega, by omega⟩⟩, hI, hF⟩)
  · have hp7 := ivu5_0 (by omega) (by omega)
    refine sv_go C.1 C.2.1 [(.iload_n 2, 1)] (pc' := 10) (by decide +kernel) rfl (lv' := [(0, sv_r a), (1, sv_i ar1), (2, sv_i ar2)]) (st' := [sv_i ar2]) rfl ?_
    refine sv_cs C (index := 187) (k := 1) (rest := []) (by decide +kernel) (sf_X9_isBeginning l g A ty σ hok4 hTA hI (ar2) ⟨by omega, by omega⟩) ⟨co_X9_isBeginning, in_X9, ⟨by decide, by decide, by decide +kernel⟩, Nat.le_of_ble_eq_true rfl, Nat.le_of_ble_eq_true rfl⟩ ml_X9_187 st_X9_isBeginning rfl rfl (Nat.le_of_ble_eq_true rfl) ⟨Nat.zero_le _, Nat.zero_le _⟩ (fun r9 σ10 hpo8 hok11 => ?_)
    obtain ⟨rfl, ⟨vu12, rfl, hvu12, ivu12_0⟩⟩ := hpo8
    refine sv_same (st2 := [sv_i vu12]) (lv2 := [(0, sv_r a), (1, sv_i ar1), (2, sv_i ar2)]) rfl rfl ?_
    refine sv_if C.1 C.2.1 (cnd := .ne) (off := 6) (tgt := 19) (by decide +kernel) (by decide) ⟨by omega, by omega⟩ (fun (h13 : vu12 ≠ 0) => ?_) (fun (h13 : ¬ (vu12 ≠ 0)) => ?_)
    · have hp14 := ivu12_0 (by omega) (by omega)
      refine sv_go C.1 C.2.1 [(.aload_n 0, 1)] (pc' := 20) (by decide +kernel) rfl (lv' := [(0, sv_r a), (1, sv_i ar1), (2, sv_i ar2)]) (st' := [sv_r a]) rfl ?_
      obtain ⟨v15, ev15, kv15⟩ := hI.ref (k := 4) k_a rfl
      refine sv_gf C (index := 40) (ci := 8) (k := 4) (r := (RX9, TX9, 6)) (v := sv_r v15) (by decide +kernel) (by rw [k_a]; rfl) rfl (by decide) fl_X9_40 (congrArg sv_a ev15) ?_
      refine sv_go C.1 C.2.1 [(.iload_n 1, 1), (.iload_n 2, 1)] (pc' := 25) (by decide +kernel) rfl (lv' := [(0, sv_r a), (1, sv_i ar1), (2, sv_i ar2)]) (st' := [sv_i ar2, sv_i ar1, sv_r v15]) rfl ?_
      refine sv_cv C (index := 225) (k := 2) (rest := []) (ci := 7) (r := (RX8, TX8, 4)) (by decide +kernel) (sf_X8_firstFree l g A ty σ hok11 hTA hI v15 kv15 (ar1) ⟨by omega, by omega⟩ (ar2) ⟨by omega, by omega⟩) ⟨co_X8_firstFree, in_X8, ⟨by decide, by decide, by decide +kernel⟩, Nat.le_of_ble_eq_true rfl, Nat.le_of_ble_eq_true rfl⟩ ml_X9_225 im_X8_firstFree se_X8_firstFree (by rw [kv15]; rfl) rfl rfl rfl (Nat.le_of_ble_eq_true rfl) ⟨Nat.zero_le _, Nat.zero_le _⟩ (fun r17 σ18 hpo16 hok19 => ?_)
      obtain ⟨⟨vu20, rfl, hvu20⟩, hIu20, hFu20⟩ := hpo16
      have hGu20 := hF.tr hFu20 (by decide) (by decide)
      have t21 : σ18 a 4 = (v15 : Int) + 1 := (hFu20.at k_a (by decide) (by decide)).trans ev15
      refine sv_same (st2 := [sv_i vu20]) (lv2 := [(0, sv_r a), (1, sv_i ar1), (2, sv_i ar2)]) rfl rfl ?_
      exact sv_iret C hr (by decide +kernel) hok19 (⟨⟨_, rfl, ⟨by omega, by omega⟩⟩, hIu20, hGu20⟩)
    · refine sv_go C.1 C.2.1 [(.bipush (-2), 2)] (pc' := 18) (by decide +kernel) rfl (lv' := [(0, sv_r a), (1, sv_i ar1), (2, sv_i ar2)]) (st' := [sv_i ((-2))]) rfl ?_
      exact sv_iret C hr (by decide +kernel) hok11 (⟨⟨_, rfl, ⟨by omega, by omega⟩⟩, hI, hF⟩)

theorem fl_X9_228 : Cond.fieldLink RX9 228 "SaintsRoad$Town" "streetCount" "I" ∈ lw_good := sv_mem 392 (by decide +kernel) rfl
theorem fl_X9_231 : Cond.fieldLink RX9 231 "SaintsRoad$Brotherhoods" "quarrelCount" "I" ∈ lw_good := sv_mem 320 (by decide +kernel) rfl
theorem ml_X9_234 : Cond.methodLink RX9 234 yX8_begunCount ∈ lw_good := sv_mem 995 (by decide +kernel) rfl
theorem co_X8_begunCount : Cond.code yX8_begunCount cX8_begunCount 3 (some .int) ∈ lw_good := sv_mem 998 (by decide +kernel) rfl
theorem im_X8_begunCount : Cond.instanceMethod yX8_begunCount ∈ lw_good := sv_mem 996 (by decide +kernel) rfl
theorem se_X8_begunCount : Cond.selects RX8 yX8_begunCount yX8_begunCount ∈ lw_good := sv_mem 997 (by decide +kernel) rfl
set_option maxHeartbeats 4000000 in
set_option maxRecDepth 100000 in
theorem sf_X9_count (l : Launch) (g : sv_G) (A : Nat → Prop) (ty : Nat → Nat) (σ : Nat → Nat → Int) (hok : sv_ok ty σ) (hTA : ∀ q, ty q ≠ 0 → A q) (hI : sv_inv sp_1 ty σ) (a : Nat) (k_a : ty a = 1) (ar1 : Int) (h_ar1 : (-2147483648) ≤ ar1 ∧ ar1 ≤ 2147483647) : sv_M l yX9_count cX9_count 2 (some .int) { frames := 1, cells := 0, slots := 0, locals := 22 } g A ty σ [sv_r a, sv_i ar1] (fun r σ' => σ = σ' ∧ ∃ rv : Int, r = [sv_i rv] ∧ ((-2147483648) ≤ rv ∧ rv ≤ 2147483647)) := by
  refine sv_enter (by decide) (Nat.le_of_ble_eq_true rfl) ?_
  intro p e s m args below meth c C hr
  have C : sv_C g A RX9 cX9_count 2 p s m args meth c := C
  have hr : meth.sig.returnType = (some .int) := hr
  have hF : sv_ofx [] [] ty σ σ := sv_ofx.rf
  refine sv_same (st2 := []) (lv2 := [(0, sv_r a), (1, sv_i ar1)]) rfl rfl ?_
  refine sv_go C.1 C.2.1 [(.iload_n 1, 1)] (pc' := 1) (by decide +kernel) rfl (lv' := [(0, sv_r a), (1, sv_i ar1)]) (st' := [sv_i ar1]) rfl ?_
  rcases (show ar1 = 0 ∨ ar1 = 1 ∨ ar1 = 2 ∨ ar1 = 3 ∨ (ar1 ≠ 0 ∧ ar1 ≠ 1 ∧ ar1 ≠ 2 ∧ ar1 ≠ 3) by omega) with h1 | h1 | h1 | h1 | h1
  · refine sv_tsI C.1 C.2.1 (dflt := 63) (lo := 0) (hi := 3) (offs := #[31, 39, 47, 55]) (len := 31) (off := 31) (tgt := 32) (by decide +kernel) 0 h1 (by decide) rfl (by decide) ?_
    refine sv_go C.1 C.2.1 [(.aload_n 0, 1)] (pc' := 33) (by decide +kernel) rfl (lv' := [(0, sv_r a), (1, sv_i ar1)]) (st' := [sv_r a]) rfl ?_
    obtain ⟨v2, ev2, kv2⟩ := hI.ref (k := 0) k_a rfl
    refine sv_gf C (index := 10) (ci := 8) (k := 0) (r := (RX9, TX9, 6)) (v := sv_r v2) (by decide +kernel) (by rw [k_a]; rfl) rfl (by decide) fl_X9_10 (congrArg sv_a ev2) ?_
    obtain ⟨v3, ev3, hv3⟩ := sv_rdn hI (k := 1) kv2 rfl
    refine sv_gf C (index := 51) (ci := 6) (k := 1) (r := (RX7, TX7, 2)) (v := sv_i v3) (by decide +kernel) (by rw [kv2]; rfl) rfl (by decide) fl_X9_51 (congrArg sv_i ev3) ?_
    exact sv_iret C hr (by decide +kernel) hok (⟨rfl, ⟨_, rfl, ⟨by omega, by omega⟩⟩⟩)
  · refine sv_tsI C.1 C.2.1 (dflt := 63) (lo := 0) (hi := 3) (offs := #[31, 39, 47, 55]) (len := 31) (off := 39) (tgt := 40) (by decide +kernel) 1 h1 (by decide) rfl (by decide) ?_
    refine sv_go C.1 C.2.1 [(.aload_n 0, 1)] (pc' := 41) (by decide +kernel) rfl (lv' := [(0, sv_r a), (1, sv_i ar1)]) (st' := [sv_r a]) rfl ?_
    obtain ⟨v4, ev4, kv4⟩ := hI.ref (k := 4) k_a rfl
    refine sv_gf C (index := 40) (ci := 8) (k := 4) (r := (RX9, TX9, 6)) (v := sv_r v4) (by decide +kernel) (by rw [k_a]; rfl) rfl (by decide) fl_X9_40 (congrArg sv_a ev4) ?_
    obtain ⟨v5, ev5, hv5⟩ := sv_rdk hok (a := v4) (k := 1) (ci := 7) (r := (RX8, TX8, 4)) (by rw [kv4]; rfl) rfl (by decide) rfl
    refine sv_gf C (index := 228) (ci := 7) (k := 1) (r := (RX8, TX8, 4)) (v := sv_i v5) (by decide +kernel) (by rw [kv4]; rfl) rfl (by decide) fl_X9_228 (congrArg sv_i ev5) ?_
    exact sv_iret C hr (by decide +kernel) hok (⟨rfl, ⟨_, rfl, ⟨by omega, by omega⟩⟩⟩)
  · refine sv_tsI C.1 C.2.1 (dflt := 63) (lo := 0) (hi := 3) (offs := #[31, 39, 47, 55]) (len := 31) (off := 47) (tgt := 48) (by decide +kernel) 2 h1 (by decide) rfl (by decide) ?_
    refine sv_go C.1 C.2.1 [(.aload_n 0, 1)] (pc' := 49) (by decide +kernel) rfl (lv' := [(0, sv_r a), (1, sv_i ar1)]) (st' := [sv_r a]) rfl ?_
    obtain ⟨v6, ev6, kv6⟩ := hI.ref (k := 3) k_a rfl
    refine sv_gf C (index := 33) (ci := 8) (k := 3) (r := (RX9, TX9, 6)) (v := sv_r v6) (by decide +kernel) (by rw [k_a]; rfl) rfl (by decide) fl_X9_33 (congrArg sv_a ev6) ?_
    obtain ⟨v7, ev7, hv7⟩ := sv_rdk hok (a := v6) (k := 1) (ci := 0) (r := (RX0, TX0, 12)) (by rw [kv6]; rfl) rfl (by decide) rfl
    refine sv_gf C (index := 231) (ci := 0) (k := 1) (r := (RX0, TX0, 12)) (v := sv_i v7) (by decide +kernel) (by rw [kv6]; rfl) rfl (by decide) fl_X9_231 (congrArg sv_i ev7) ?_
    exact sv_iret C hr (by decide +kernel) hok (⟨rfl, ⟨_, rfl, ⟨by omega, by omega⟩⟩⟩)
  · refine sv_tsI C.1 C.2.1 (dflt := 63) (lo := 0) (hi := 3) (offs := #[31, 39, 47, 55]) (len := 31) (off := 55) (tgt := 56) (by decide +kernel) 3 h1 (by decide) rfl (by decide) ?_
    refine sv_go C.1 C.2.1 [(.aload_n 0, 1)] (pc' := 57) (by decide +kernel) rfl (lv' := [(0, sv_r a), (1, sv_i ar1)]) (st' := [sv_r a]) rfl ?_
    obtain ⟨v8, ev8, kv8⟩ := hI.ref (k := 4) k_a rfl
    refine sv_gf C (index := 40) (ci := 8) (k := 4) (r := (RX9, TX9, 6)) (v := sv_r v8) (by decide +kernel) (by rw [k_a]; rfl) rfl (by decide) fl_X9_40 (congrArg sv_a ev8) ?_
    refine sv_cv C (index := 234) (k := 0) (rest := []) (ci := 7) (r := (RX8, TX8, 4)) (by decide +kernel) (sf_X8_begunCount l g A ty σ hok hTA hI v8 kv8) ⟨co_X8_begunCount, in_X8, ⟨by decide, by decide, by decide +kernel⟩, Nat.le_of_ble_eq_true rfl, Nat.le_of_ble_eq_true rfl⟩ ml_X9_234 im_X8_begunCount se_X8_begunCount (by rw [kv8]; rfl) rfl rfl rfl (Nat.le_of_ble_eq_true rfl) ⟨Nat.zero_le _, Nat.zero_le _⟩ (fun r10 σ11 hpo9 hok12 => ?_)
    obtain ⟨rfl, ⟨vu13, rfl, hvu13⟩⟩ := hpo9
    refine sv_same (st2 := [sv_i vu13]) (lv2 := [(0, sv_r a), (1, sv_i ar1)]) rfl rfl ?_
    exact sv_iret C hr (by decide +kernel) hok12 (⟨rfl, ⟨_, rfl, ⟨by omega, by omega⟩⟩⟩)
  · refine sv_tsO C.1 C.2.1 (dflt := 63) (lo := 0) (hi := 3) (offs := #[31, 39, 47, 55]) (len := 31) (tgt := 64) (by decide +kernel) ⟨by omega, by omega⟩ (by omega) (by decide) ?_
    refine sv_go C.1 C.2.1 [(.iload_n 1, 1), (.bipush 10, 2)] (pc' := 67) (by decide +kernel) rfl (lv' := [(0, sv_r a), (1, sv_i ar1)]) (st' := [sv_i 10, sv_i ar1]) rfl ?_
    refine sv_icmp C.1 C.2.1 (cnd := .lt) (off := 31) (tgt := 98) (by decide +kernel) (by decide) ⟨by omega, by omega⟩ ⟨by omega, by omega⟩ (fun (h14 : ar1 < 10) => ?_) (fun (h14 : ¬ (ar1 < 10)) => ?_)
    · refine sv_go C.1 C.2.1 [(.iconst (-1), 1)] (pc' := 99) (by decide +kernel) rfl (lv' := [(0, sv_r a), (1, sv_i ar1)]) (st' := [sv_i ((-1))]) rfl ?_
      exact sv_iret C hr (by decide +kernel) hok (⟨rfl, ⟨_, rfl, ⟨by omega, by omega⟩⟩⟩)
    · refine sv_go C.1 C.2.1 [(.iload_n 1, 1), (.bipush 10, 2), (.isub, 1)] (pc' := 74) (by decide +kernel) rfl (lv' := [(0, sv_r a), (1, sv_i ar1)]) (st' := [sv_i (ar1 - 10)]) rfl ?_
      refine sv_cs C (index := 59) (k := 1) (rest := []) (by decide +kernel) (sf_X9_isPlace l g A ty σ hok hTA hI (ar1 - 10) ⟨by omega, by omega⟩) ⟨co_X9_isPlace, in_X9, ⟨by decide, by decide, by decide +kernel⟩, Nat.le_of_ble_eq_true rfl, Nat.le_of_ble_eq_true rfl⟩ ml_X9_59 st_X9_isPlace rfl rfl (Nat.le_of_ble_eq_true rfl) ⟨Nat.zero_le _, Nat.zero_le _⟩ (fun r16 σ17 hpo15 hok18 => ?_)
      obtain ⟨rfl, ⟨vu19, rfl, hvu19, ivu19_0⟩⟩ := hpo15
      refine sv_same (st2 := [sv_i vu19]) (lv2 := [(0, sv_r a), (1, sv_i ar1)]) rfl rfl ?_
      refine sv_if C.1 C.2.1 (cnd := .eq) (off := 21) (tgt := 98) (by decide +kernel) (by decide) ⟨by omega, by omega⟩ (fun (h20 : vu19 = 0) => ?_) (fun (h20 : ¬ (vu19 = 0)) => ?_)
      · refine sv_go C.1 C.2.1 [(.iconst (-1), 1)] (pc' := 99) (by decide +kernel) rfl (lv' := [(0, sv_r a), (1, sv_i ar1)]) (st' := [sv_i ((-1))]) rfl ?_
        exact sv_iret C hr (by decide +kernel) hok18 (⟨rfl, ⟨_, rfl, ⟨by omega, by omega⟩⟩⟩)
      · have hp21 := ivu19_0 (by omega) (by omega)
        refine sv_go C.1 C.2.1 [(.aload_n 0, 1)] (pc' := 81) (by decide +kernel) rfl (lv' := [(0, sv_r a), (1, sv_i ar1)]) (st' := [sv_r a]) rfl ?_
        obtain ⟨v22, ev22, kv22⟩ := hI.ref (k := 2) k_a rfl
        refine sv_gf C (index := 25) (ci := 8) (k := 2) (r := (RX9, TX9, 6)) (v := sv_r v22) (by decide +kernel) (by rw [k_a]; rfl) rfl (by decide) fl_X9_25 (congrArg sv_a ev22) ?_
        refine sv_go C.1 C.2.1 [(.iload_n 1, 1), (.bipush 10, 2), (.isub, 1)] (pc' := 88) (by decide +kernel) rfl (lv' := [(0, sv_r a), (1, sv_i ar1)]) (st' := [sv_i (ar1 - 10), sv_r v22]) rfl ?_
        refine sv_aa C (N := "SaintsRoad$Place") (by decide) (n := 4) (by decide +kernel) (by rw [kv22]; rfl) (by decide) (by omega) (by omega) ?_
        obtain ⟨v23, ev23, kv23⟩ := hI.ref (k := (ar1 - 10 : Int).toNat) kv22 (by first | rfl | (show (if _ then _ else _) = _; rw [if_pos (by omega)]))
        rw [ev23]
        obtain ⟨v24, ev24, kv24⟩ := hI.ref (k := 2) kv23 rfl
        refine sv_gf C (index := 71) (ci := 3) (k := 2) (r := (RX4, TX4, 11)) (v := sv_r v24) (by decide +kernel) (by rw [kv23]; rfl) rfl (by decide) fl_X9_71 (congrArg sv_a ev24) ?_
        obtain ⟨v25, ev25, hv25⟩ := sv_rdn hI (k := 2) kv24 rfl
        refine sv_gf C (index := 74) (ci := 1) (k := 2) (r := (RX1, TX1, 6)) (v := sv_i v25) (by decide +kernel) (by rw [kv24]; rfl) rfl (by decide) fl_X9_74 (congrArg sv_i ev25) ?_
        refine sv_goto C.1 C.2.1 (off := 4) (tgt := 99) (by decide +kernel) (by decide) ?_
        exact sv_iret C hr (by decide +kernel) hok18 (⟨rfl, ⟨_, rfl, ⟨by omega, by omega⟩⟩⟩)

theorem ml_X9_237 : Cond.methodLink RX9 237 yX4_feastHeldOn ∈ lw_good := sv_mem 844 (by decide +kernel) rfl
theorem fl_X9_241 : Cond.fieldLink RX9 241 "SaintsRoad$Feast" "rank" "I" ∈ lw_good := sv_mem 202 (by decide +kernel) rfl
theorem fl_X9_244 : Cond.fieldLink RX9 244 "SaintsRoad$Place" "heldOn" "[I" ∈ lw_good := sv_mem 277 (by decide +kernel) rfl
theorem ml_X9_247 : Cond.methodLink RX9 247 yX0_carry ∈ lw_good := sv_mem 845 (by decide +kernel) rfl
theorem co_X0_carry : Cond.code yX0_carry cX0_carry 6 none ∈ lw_good := sv_mem 848 (by decide +kernel) rfl
theorem im_X0_carry : Cond.instanceMethod yX0_carry ∈ lw_good := sv_mem 846 (by decide +kernel) rfl
theorem se_X0_carry : Cond.selects RX0 yX0_carry yX0_carry ∈ lw_good := sv_mem 847 (by decide +kernel) rfl
set_option maxHeartbeats 4000000 in
set_option maxRecDepth 100000 in
theorem sf_X9_carryAll (l : Launch) (g : sv_G) (A : Nat → Prop) (ty : Nat → Nat) (σ : Nat → Nat → Int) (hok : sv_ok ty σ) (hTA : ∀ q, ty q ≠ 0 → A q) (hI : sv_inv sp_1 ty σ) (a : Nat) (k_a : ty a = 1) (b : Nat) (k_b : ty b = 4) (y : Int) (h_y : 1 ≤ y ∧ y ≤ 2000) (r1 : Int) (h_r1 : (-2147483648) ≤ r1 ∧ r1 ≤ 2147483647) (bq : Nat) (k_bq : ty bq = 5) (t2 : Int) (h_t2 : 0 ≤ t2 ∧ t2 ≤ 6954) (hbq : σ a 3 = (bq : Int) + 1) (ht2 : σ bq 2 = t2) : sv_M l yX9_carryAll cX9_carryAll 7 none { frames := 3, cells := 0, slots := 0, locals := 70 } g A ty σ [sv_r a, sv_r b, sv_i y, sv_i r1] (fun r σ' => (r = []) ∧ sv_inv sp_1 ty σ' ∧ sv_ofx [(5, 2), (5, 10), (5, 11)] [30, 32, 33, 34, 35, 36] ty σ σ' ∧ (t2 ≤ σ' bq 2 ∧ σ' bq 2 ≤ t2 + 366)) := by
  refine sv_enter (by decide) (Nat.le_of_ble_eq_true rfl) ?_
  intro p e s m args below meth c C hr
  have C : sv_C g A RX9 cX9_carryAll 7 p s m args meth c := C
  have hr : meth.sig.returnType = none := hr
  have hF : sv_ofx [(5, 2), (5, 10), (5, 11)] [30, 32, 33, 34, 35, 36] ty σ σ := sv_ofx.rf
  refine sv_same (st2 := []) (lv2 := [(0, sv_r a), (1, sv_r b), (2, sv_i y), (3, sv_i r1)]) rfl rfl ?_
  refine sv_go C.1 C.2.1 [(.iload_n 2, 1)] (pc' := 1) (by decide +kernel) rfl (lv' := [(0, sv_r a), (1, sv_r b), (2, sv_i y), (3, sv_i r1)]) (st' := [sv_i y]) rfl ?_
  refine sv_cs C (index := 148) (k := 1) (rest := []) (by decide +kernel) (ct_X2_length l g A ty σ hok (y) ⟨by omega, by omega⟩) ⟨co_X2_length, in_X2, ⟨by decide, by decide, by decide +kernel⟩, Nat.le_of_ble_eq_true rfl, Nat.le_of_ble_eq_true rfl⟩ ml_X9_148 st_X2_length rfl rfl (Nat.le_of_ble_eq_true rfl) ⟨Nat.zero_le _, Nat.zero_le _⟩ (fun r2 σ3 hpo1 hok4 => ?_)
  obtain ⟨rfl, rfl⟩ := hpo1
  have hn6 := dy_lp_in y
  refine sv_same (st2 := [sv_i (365 + dy_lp y)]) (lv2 := [(0, sv_r a), (1, sv_r b), (2, sv_i y), (3, sv_i r1)]) rfl rfl ?_
  refine sv_go C.1 C.2.1 [(.istore 4, 2), (.iconst 0, 1), (.istore 5, 2)] (pc' := 9) (by decide +kernel) rfl (lv' := [(0, sv_r a), (1, sv_r b), (2, sv_i y), (3, sv_i r1), (4, sv_i (365 + dy_lp y)), (5, sv_i 0)]) (st' := []) rfl ?_
  have L9 : ∀ (n : Nat) (Xg7_l5 : Int) (Xg7_fbq_2 : Int) (σ8 : Nat → Nat → Int), (0 ≤ Xg7_l5 ∧ Xg7_l5 ≤ 366) → (0 ≤ Xg7_fbq_2 ∧ Xg7_fbq_2 ≤ 7320) → (sv_ok ty σ8) → (sv_inv sp_1 ty σ8) → (sv_ofx [(5, 2), (5, 10), (5, 11)] [30, 32, 33, 34, 35, 36] ty σ σ8) → (σ8 a 3 = (bq : Int) + 1) → (σ8 bq 2 = Xg7_fbq_2) → (t2 ≤ Xg7_fbq_2 ∧ Xg7_fbq_2 ≤ t2 + Xg7_l5) → (366 - Xg7_l5) < (n : Int) → sv_E p l e { frames := 3, cells := 0, slots := 0, locals := 70 } s m args below meth c 7 g A ty (fun r σ' => (r = []) ∧ sv_inv sp_1 ty σ' ∧ sv_ofx [(5, 2), (5, 10), (5, 11)] [30, 32, 33, 34, 35, 36] ty σ σ' ∧ (t2 ≤ σ' bq 2 ∧ σ' bq 2 ≤ t2 + 366)) σ8 9 [(0, sv_r a), (1, sv_r b), (2, sv_i y), (3, sv_i r1), (4, sv_i (365 + dy_lp y)), (5, sv_i Xg7_l5)] [] := by
    intro n
    induction n with
    | zero => intro Xg7_l5 Xg7_fbq_2 σ8 hXg7_l5 hXg7_fbq_2 okσ8 Iσ8 Fσ8 eσ8_0 eσ8_1 hc2 hmu; exact absurd hmu (by omega)
    | succ n ih10 =>
      intro Xg7_l5 Xg7_fbq_2 σ8 hXg7_l5 hXg7_fbq_2 okσ8 Iσ8 Fσ8 eσ8_0 eσ8_1 hc2 hmu
      refine sv_go C.1 C.2.1 [(.iload 5, 2), (.iload 4, 2)] (pc' := 13) (by decide +kernel) rfl (lv' := [(0, sv_r a), (1, sv_r b), (2, sv_i y), (3, sv_i r1), (4, sv_i (365 + dy_lp y)), (5, sv_i Xg7_l5)]) (st' := [sv_i (365 + dy_lp y), sv_i Xg7_l5]) rfl ?_
      refine sv_icmp C.1 C.2.1 (cnd := .ge) (off := 48) (tgt := 61) (by decide +kernel) (by decide) ⟨by omega, by omega⟩ ⟨by omega, by omega⟩ (fun (h11 : (365 + dy_lp y) ≤ Xg7_l5) => ?_) (fun (h11 : ¬ ((365 + dy_lp y) ≤ Xg7_l5)) => ?_)
      · exact sv_vret C hr (by decide +kernel) okσ8 (⟨rfl, Iσ8, Fσ8, by rw [eσ8_1]; omega⟩)
      · refine sv_go C.1 C.2.1 [(.aload_n 1, 1), (.iload 5, 2)] (pc' := 19) (by decide +kernel) rfl (lv' := [(0, sv_r a), (1, sv_r b), (2, sv_i y), (3, sv_i r1), (4, sv_i (365 + dy_lp y)), (5, sv_i Xg7_l5)]) (st' := [sv_i Xg7_l5, sv_r b]) rfl ?_
        refine sv_cv C (index := 237) (k := 1) (rest := []) (ci := 3) (r := (RX4, TX4, 11)) (by decide +kernel) (sf_X4_feastHeldOn l g A ty σ8 okσ8 hTA Iσ8 b k_b (Xg7_l5) ⟨by omega, by omega⟩) ⟨co_X4_feastHeldOn, in_X4, ⟨by decide, by decide, by decide +kernel⟩, Nat.le_of_ble_eq_true rfl, Nat.le_of_ble_eq_true rfl⟩ ml_X9_237 im_X4_feastHeldOn se_X4_feastHeldOn (by rw [k_b]; rfl) rfl rfl rfl (Nat.le_of_ble_eq_true rfl) ⟨Nat.zero_le _, Nat.zero_le _⟩ (fun r13 σ14 hpo12 hok15 => ?_)
        obtain ⟨rfl, ⟨zu16, rfl, hzu16⟩⟩ := hpo12
        refine sv_same (st2 := [sv_a zu16]) (lv2 := [(0, sv_r a), (1, sv_r b), (2, sv_i y), (3, sv_i r1), (4, sv_i (365 + dy_lp y)), (5, sv_i Xg7_l5)]) rfl rfl ?_
        refine sv_go C.1 C.2.1 [(.astore 6, 2), (.aload 6, 2)] (pc' := 26) (by decide +kernel) rfl (lv' := [(0, sv_r a), (1, sv_r b), (2, sv_i y), (3, sv_i r1), (4, sv_i (365 + dy_lp y)), (5, sv_i Xg7_l5), (6, sv_a zu16)]) (st' := [sv_a zu16]) rfl ?_
        have J20 : ∀ (Jg18_fbq_2 : Int) (σ19 : Nat → Nat → Int), (0 ≤ Jg18_fbq_2 ∧ Jg18_fbq_2 ≤ 7320) → (sv_ok ty σ19) → (sv_inv sp_1 ty σ19) → (sv_ofx [(5, 2), (5, 10), (5, 11)] [30, 32, 33, 34, 35, 36] ty σ σ19) → (σ19 a 3 = (bq : Int) + 1) → (σ19 bq 2 = Jg18_fbq_2) → (t2 ≤ Jg18_fbq_2 ∧ Jg18_fbq_2 ≤ t2 + Xg7_l5 + 1) → sv_E p l e { frames := 3, cells := 0, slots := 0, locals := 70 } s m args below meth c 7 g A ty (fun r σ' => (r = []) ∧ sv_inv sp_1 ty σ' ∧ sv_ofx [(5, 2), (5, 10), (5, 11)] [30, 32, 33, 34, 35, 36] ty σ σ' ∧ (t2 ≤ σ' bq 2 ∧ σ' bq 2 ≤ t2 + 366)) σ19 55 [(0, sv_r a), (1, sv_r b), (2, sv_i y), (3, sv_i r1), (4, sv_i (365 + dy_lp y)), (5, sv_i Xg7_l5)] [] := by
          intro Jg18_fbq_2 σ19 hJg18_fbq_2 okσ19 Iσ19 Fσ19 eσ19_0 eσ19_1 hj2
          refine sv_go C.1 C.2.1 [(.iinc 5 1, 3)] (pc' := 58) (by decide +kernel) rfl (lv' := [(0, sv_r a), (1, sv_r b), (2, sv_i y), (3, sv_i r1), (4, sv_i (365 + dy_lp y)), (5, sv_i (Xg7_l5 + 1))]) (st' := []) rfl ?_
          refine sv_goto C.1 C.2.1 (off := (-49)) (tgt := 9) (by decide +kernel) (by decide) ?_
          exact ih10 (Xg7_l5 + 1) Jg18_fbq_2 σ19 ⟨by omega, by omega⟩ ⟨by omega, by omega⟩ okσ19 Iσ19 Fσ19 eσ19_0 eσ19_1 (by omega) (by omega)
        rcases hzu16 with rfl | ⟨q17, rfl, kq17, pq17⟩
        · refine sv_ifnull C.1 C.2.1 (off := 29) (tgt := 55) (by decide +kernel) (by decide) (by omega) (fun _ => ?_) (fun (h21 : 0 < (0 : Int)) => absurd h21 (by omega))
          refine sv_pick [0, 1, 2, 3, 4, 5] (lv2 := [(0, sv_r a), (1, sv_r b), (2, sv_i y), (3, sv_i r1), (4, sv_i (365 + dy_lp y)), (5, sv_i Xg7_l5)]) rfl ?_
          exact J20 Xg7_fbq_2 σ8 ⟨by omega, by omega⟩ hok15 Iσ8 Fσ8 eσ8_0 eσ8_1 (by omega)
        · refine sv_ifnull C.1 C.2.1 (off := 29) (tgt := 55) (by decide +kernel) (by decide) (by omega) (fun (h22 : (q17 : Int) + 1 = 0) => absurd h22 (by omega)) (fun _ => ?_)
          refine sv_go C.1 C.2.1 [(.aload 6, 2)] (pc' := 31) (by decide +kernel) rfl (lv' := [(0, sv_r a), (1, sv_r b), (2, sv_i y), (3, sv_i r1), (4, sv_i (365 + dy_lp y)), (5, sv_i Xg7_l5), (6, sv_r q17)]) (st' := [sv_r q17]) rfl ?_
          obtain ⟨v23, ev23, hv23⟩ := sv_rdk hok15 (a := q17) (k := 7) (ci := 2) (r := (RX3, TX3, 12)) (by rw [kq17]; rfl) rfl (by decide) rfl
          refine sv_gf C (index := 241) (ci := 2) (k := 7) (r := (RX3, TX3, 12)) (v := sv_i v23) (by decide +kernel) (by rw [kq17]; rfl) rfl (by decide) fl_X9_241 (congrArg sv_i ev23) ?_
          refine sv_go C.1 C.2.1 [(.iload_n 3, 1)] (pc' := 35) (by decide +kernel) rfl (lv' := [(0, sv_r a), (1, sv_r b), (2, sv_i y), (3, sv_i r1), (4, sv_i (365 + dy_lp y)), (5, sv_i Xg7_l5), (6, sv_r q17)]) (st' := [sv_i r1, sv_i v23]) rfl ?_
          refine sv_icmp C.1 C.2.1 (cnd := .gt) (off := 20) (tgt := 55) (by decide +kernel) (by decide) ⟨by omega, by omega⟩ ⟨by omega, by omega⟩ (fun (h24 : r1 < v23) => ?_) (fun (h24 : ¬ (r1 < v23)) => ?_)
          · refine sv_pick [0, 1, 2, 3, 4, 5] (lv2 := [(0, sv_r a), (1, sv_r b), (2, sv_i y), (3, sv_i r1), (4, sv_i (365 + dy_lp y)), (5, sv_i Xg7_l5)]) rfl ?_
            exact J20 Xg7_fbq_2 σ8 ⟨by omega, by omega⟩ hok15 Iσ8 Fσ8 eσ8_0 eσ8_1 (by omega)
          · refine sv_go C.1 C.2.1 [(.aload_n 0, 1)] (pc' := 39) (by decide +kernel) rfl (lv' := [(0, sv_r a), (1, sv_r b), (2, sv_i y), (3, sv_i r1), (4, sv_i (365 + dy_lp y)), (5, sv_i Xg7_l5), (6, sv_r q17)]) (st' := [sv_r a]) rfl ?_
            refine sv_gf C (index := 33) (ci := 8) (k := 3) (r := (RX9, TX9, 6)) (v := sv_r bq) (by decide +kernel) (by rw [k_a]; rfl) rfl (by decide) fl_X9_33 (congrArg sv_a eσ8_0) ?_
            refine sv_go C.1 C.2.1 [(.iload_n 2, 1), (.iload 5, 2), (.aload_n 1, 1)] (pc' := 46) (by decide +kernel) rfl (lv' := [(0, sv_r a), (1, sv_r b), (2, sv_i y), (3, sv_i r1), (4, sv_i (365 + dy_lp y)), (5, sv_i Xg7_l5), (6, sv_r q17)]) (st' := [sv_r b, sv_i Xg7_l5, sv_i y, sv_r bq]) rfl ?_
            obtain ⟨v25, ev25, kv25⟩ := Iσ8.ref (k := 1) k_b rfl
            refine sv_gf C (index := 244) (ci := 3) (k := 1) (r := (RX4, TX4, 11)) (v := sv_r v25) (by decide +kernel) (by rw [k_b]; rfl) rfl (by decide) fl_X9_244 (congrArg sv_a ev25) ?_
            refine sv_go C.1 C.2.1 [(.iload 5, 2)] (pc' := 51) (by decide +kernel) rfl (lv' := [(0, sv_r a), (1, sv_r b), (2, sv_i y), (3, sv_i r1), (4, sv_i (365 + dy_lp y)), (5, sv_i Xg7_l5), (6, sv_r q17)]) (st' := [sv_i Xg7_l5, sv_r v25, sv_i Xg7_l5, sv_i y, sv_r bq]) rfl ?_
            refine sv_ia C (n := 366) (by decide +kernel) (by rw [kv25]; rfl) (by decide) (by omega) (by omega) ?_
            obtain ⟨v26, ev26, hv26⟩ := sv_rdn Iσ8 (k := (Xg7_l5 : Int).toNat) kv25 rfl
            rw [ev26]
            refine sv_cv C (index := 247) (k := 3) (rest := []) (ci := 0) (r := (RX0, TX0, 12)) (by decide +kernel) (sf_X0_carry l g A ty σ8 hok15 hTA Iσ8 bq k_bq (y) ⟨by omega, by omega⟩ (Xg7_l5) ⟨by omega, by omega⟩ (v26) ⟨by omega, by omega⟩ (Xg7_fbq_2) ⟨by omega, by omega⟩ eσ8_1) ⟨co_X0_carry, in_X0, ⟨by decide, by decide, by decide +kernel⟩, Nat.le_of_ble_eq_true rfl, Nat.le_of_ble_eq_true rfl⟩ ml_X9_247 im_X0_carry se_X0_carry (by rw [k_bq]; rfl) rfl rfl rfl (Nat.le_of_ble_eq_true rfl) ⟨Nat.zero_le _, Nat.zero_le _⟩ (fun r28 σ29 hpo27 hok30 => ?_)
            obtain ⟨rfl, hIu31, hFu31, xu31⟩ := hpo27
            have hGu31 := Fσ8.tr hFu31 (by decide) (by decide)
            have t32 : σ29 a 3 = (bq : Int) + 1 := (hFu31.at k_a (by decide) (by decide)).trans eσ8_0
            have t33 : σ29 q17 7 = v23 := (hFu31.at kq17 (by decide) (by decide)).trans ev23
            have t34 : σ29 b 1 = (v25 : Int) + 1 := (hFu31.at k_b (by decide) (by decide)).trans ev25
            have t35 : σ29 v25 (Xg7_l5 : Int).toNat = v26 := (hFu31.atA kv25 (by decide) (by decide)).trans ev26
            obtain ⟨wu31, ewu31, hwu31⟩ := sv_rdn hIu31 (k := 2) k_bq rfl
            refine sv_same (st2 := []) (lv2 := [(0, sv_r a), (1, sv_r b), (2, sv_i y), (3, sv_i r1), (4, sv_i (365 + dy_lp y)), (5, sv_i Xg7_l5), (6, sv_r q17)]) rfl rfl ?_
            refine sv_pick [0, 1, 2, 3, 4, 5] (lv2 := [(0, sv_r a), (1, sv_r b), (2, sv_i y), (3, sv_i r1), (4, sv_i (365 + dy_lp y)), (5, sv_i Xg7_l5)]) rfl ?_
            exact J20 wu31 σ29 ⟨by omega, by omega⟩ hok30 hIu31 hGu31 t32 ewu31 (by omega)
  exact L9 (((366 - 0 : Int)).toNat + 1) 0 t2 σ ⟨by omega, by omega⟩ ⟨by omega, by omega⟩ hok4 hI hF hbq ht2 (by omega) (by omega)

theorem ml_X9_161 : Cond.methodLink RX9 161 yX0_startTurns ∈ lw_good := sv_mem 835 (by decide +kernel) rfl
theorem co_X0_startTurns : Cond.code yX0_startTurns cX0_startTurns 2 none ∈ lw_good := sv_mem 838 (by decide +kernel) rfl
theorem im_X0_startTurns : Cond.instanceMethod yX0_startTurns ∈ lw_good := sv_mem 836 (by decide +kernel) rfl
theorem se_X0_startTurns : Cond.selects RX0 yX0_startTurns yX0_startTurns ∈ lw_good := sv_mem 837 (by decide +kernel) rfl
theorem ml_X9_164 : Cond.methodLink RX9 164 yX9_carryAll ∈ lw_good := sv_mem 840 (by decide +kernel) rfl
theorem co_X9_carryAll : Cond.code yX9_carryAll cX9_carryAll 7 none ∈ lw_good := sv_mem 843 (by decide +kernel) rfl
theorem im_X9_carryAll : Cond.instanceMethod yX9_carryAll ∈ lw_good := sv_mem 842 (by decide +kernel) rfl
theorem se_X9_carryAll : Cond.selects RX9 yX9_carryAll yX9_carryAll ∈ lw_good := sv_mem 31 (by decide +kernel) rfl
theorem fl_X9_168 : Cond.fieldLink RX9 168 "SaintsRoad$Brotherhoods" "turns" "I" ∈ lw_good := sv_mem 322 (by decide +kernel) rfl
set_option maxHeartbeats 4000000 in
set_option maxRecDepth 100000 in
theorem sf_X9_rota (l : Launch) (g : sv_G) (A : Nat → Prop) (ty : Nat → Nat) (σ : Nat → Nat → Int) (hok : sv_ok ty σ) (hTA : ∀ q, ty q ≠ 0 → A q) (hI : sv_inv sp_1 ty σ) (a : Nat) (k_a : ty a = 1) (ar1 : Int) (h_ar1 : (-2147483648) ≤ ar1 ∧ ar1 ≤ 2147483647) (ar2 : Int) (h_ar2 : (-2147483648) ≤ ar2 ∧ ar2 ≤ 2147483647) (ar3 : Int) (h_ar3 : (-2147483648) ≤ ar3 ∧ ar3 ≤ 2147483647) (ar4 : Int) (h_ar4 : (-2147483648) ≤ ar4 ∧ ar4 ≤ 2147483647) (ar5 : Int) (h_ar5 : (-2147483648) ≤ ar5 ∧ ar5 ≤ 2147483647) : sv_M l yX9_rota cX9_rota 7 (some .int) { frames := 6, cells := 0, slots := 0, locals := 134 } g A ty σ [sv_r a, sv_i ar1, sv_i ar2, sv_i ar3, sv_i ar4, sv_i ar5] (fun r σ' => (∃ rv : Int, r = [sv_i rv] ∧ ((-2) ≤ rv ∧ rv ≤ 7320)) ∧ sv_inv sp_1 ty σ' ∧ sv_ofx [(4, 7), (4, 8), (4, 9), (4, 10), (5, 2), (5, 9), (5, 10), (5, 11)] [24, 25, 26, 27, 28, 29, 30, 32, 33, 34, 35, 36] ty σ σ') := by
  refine sv_enter (by decide) (Nat.le_of_ble_eq_true rfl) ?_
  intro p e s m args below meth c C hr
  have C : sv_C g A RX9 cX9_rota 7 p s m args meth c := C
  have hr : meth.sig.returnType = (some .int) := hr
  have hF : sv_ofx [(4, 7), (4, 8), (4, 9), (4, 10), (5, 2), (5, 9), (5, 10), (5, 11)] [24, 25, 26, 27, 28, 29, 30, 32, 33, 34, 35, 36] ty σ σ := sv_ofx.rf
  refine sv_same (st2 := []) (lv2 := [(0, sv_r a), (1, sv_i ar1), (2, sv_i ar2), (3, sv_i ar3), (4, sv_i ar4), (5, sv_i ar5)]) rfl rfl ?_
  refine sv_go C.1 C.2.1 [(.iload_n 1, 1)] (pc' := 1) (by decide +kernel) rfl (lv' := [(0, sv_r a), (1, sv_i ar1), (2, sv_i ar2), (3, sv_i ar3), (4, sv_i ar4), (5, sv_i ar5)]) (st' := [sv_i ar1]) rfl ?_
  refine sv_cs C (index := 59) (k := 1) (rest := []) (by decide +kernel) (sf_X9_isPlace l g A ty σ hok hTA hI (ar1) ⟨by omega, by omega⟩) ⟨co_X9_isPlace, in_X9, ⟨by decide, by decide, by decide +kernel⟩, Nat.le_of_ble_eq_true rfl, Nat.le_of_ble_eq_true rfl⟩ ml_X9_59 st_X9_isPlace rfl rfl (Nat.le_of_ble_eq_true rfl) ⟨Nat.zero_le _, Nat.zero_le _⟩ (fun r2 σ3 hpo1 hok4 => ?_)
  obtain ⟨rfl, ⟨vu5, rfl, hvu5, ivu5_0⟩⟩ := hpo1
  refine sv_same (st2 := [sv_i vu5]) (lv2 := [(0, sv_r a), (1, sv_i ar1), (2, sv_i ar2), (3, sv_i ar3), (4, sv_i ar4), (5, sv_i ar5)]) rfl rfl ?_
  refine sv_if C.1 C.2.1 (cnd := .eq) (off := 25) (tgt := 29) (by decide +kernel) (by decide) ⟨by omega, by omega⟩ (fun (h6 : vu5 = 0) => ?_) (fun (h6 : ¬ (vu5 = 0)) => ?_)
  · refine sv_go C.1 C.2.1 [(.bipush (-2), 2)] (pc' := 31) (by decide +kernel) rfl (lv' := [(0, sv_r a), (1, sv_i ar1), (2, sv_i ar2), (3, sv_i ar3), (4, sv_i ar4), (5, sv_i ar5)]) (st' := [sv_i ((-2))]) rfl ?_
    exact sv_iret C hr (by decide +kernel) hok4 (⟨⟨_, rfl, ⟨by omega, by omega⟩⟩, hI, hF⟩)
  · have hp7 := ivu5_0 (by omega) (by omega)
    refine sv_go C.1 C.2.1 [(.iload 4, 2)] (pc' := 9) (by decide +kernel) rfl (lv' := [(0, sv_r a), (1, sv_i ar1), (2, sv_i ar2), (3, sv_i ar3), (4, sv_i ar4), (5, sv_i ar5)]) (st' := [sv_i ar4]) rfl ?_
    refine sv_cs C (index := 137) (k := 1) (rest := []) (by decide +kernel) (sf_X9_isRank l g A ty σ hok4 hTA hI (ar4) ⟨by omega, by omega⟩) ⟨co_X9_isRank, in_X9, ⟨by decide, by decide, by decide +kernel⟩, Nat.le_of_ble_eq_true rfl, Nat.le_of_ble_eq_true rfl⟩ ml_X9_137 st_X9_isRank rfl rfl (Nat.le_of_ble_eq_true rfl) ⟨Nat.zero_le _, Nat.zero_le _⟩ (fun r9 σ10 hpo8 hok11 => ?_)
    obtain ⟨rfl, ⟨vu12, rfl, hvu12, ivu12_0⟩⟩ := hpo8
    refine sv_same (st2 := [sv_i vu12]) (lv2 := [(0, sv_r a), (1, sv_i ar1), (2, sv_i ar2), (3, sv_i ar3), (4, sv_i ar4), (5, sv_i ar5)]) rfl rfl ?_
    refine sv_if C.1 C.2.1 (cnd := .eq) (off := 17) (tgt := 29) (by decide +kernel) (by decide) ⟨by omega, by omega⟩ (fun (h13 : vu12 = 0) => ?_) (fun (h13 : ¬ (vu12 = 0)) => ?_)
    · refine sv_go C.1 C.2.1 [(.bipush (-2), 2)] (pc' := 31) (by decide +kernel) rfl (lv' := [(0, sv_r a), (1, sv_i ar1), (2, sv_i ar2), (3, sv_i ar3), (4, sv_i ar4), (5, sv_i ar5)]) (st' := [sv_i ((-2))]) rfl ?_
      exact sv_iret C hr (by decide +kernel) hok11 (⟨⟨_, rfl, ⟨by omega, by omega⟩⟩, hI, hF⟩)
    · have hp14 := ivu12_0 (by omega) (by omega)
      refine sv_go C.1 C.2.1 [(.iload 5, 2), (.iconst 1, 1)] (pc' := 18) (by decide +kernel) rfl (lv' := [(0, sv_r a), (1, sv_i ar1), (2, sv_i ar2), (3, sv_i ar3), (4, sv_i ar4), (5, sv_i ar5)]) (st' := [sv_i 1, sv_i ar5]) rfl ?_
      refine sv_icmp C.1 C.2.1 (cnd := .lt) (off := 11) (tgt := 29) (by decide +kernel) (by decide) ⟨by omega, by omega⟩ ⟨by omega, by omega⟩ (fun (h15 : ar5 < 1) => ?_) (fun (h15 : ¬ (ar5 < 1)) => ?_)
      · refine sv_go C.1 C.2.1 [(.bipush (-2), 2)] (pc' := 31) (by decide +kernel) rfl (lv' := [(0, sv_r a), (1, sv_i ar1), (2, sv_i ar2), (3, sv_i ar3), (4, sv_i ar4), (5, sv_i ar5)]) (st' := [sv_i ((-2))]) rfl ?_
        exact sv_iret C hr (by decide +kernel) hok11 (⟨⟨_, rfl, ⟨by omega, by omega⟩⟩, hI, hF⟩)
      · refine sv_go C.1 C.2.1 [(.iload 5, 2), (.sipush 1023, 3)] (pc' := 26) (by decide +kernel) rfl (lv' := [(0, sv_r a), (1, sv_i ar1), (2, sv_i ar2), (3, sv_i ar3), (4, sv_i ar4), (5, sv_i ar5)]) (st' := [sv_i 1023, sv_i ar5]) rfl ?_
        refine sv_icmp C.1 C.2.1 (cnd := .le) (off := 6) (tgt := 32) (by decide +kernel) (by decide) ⟨by omega, by omega⟩ ⟨by omega, by omega⟩ (fun (h16 : ar5 ≤ 1023) => ?_) (fun (h16 : ¬ (ar5 ≤ 1023)) => ?_)
        · refine sv_go C.1 C.2.1 [(.iload_n 2, 1)] (pc' := 33) (by decide +kernel) rfl (lv' := [(0, sv_r a), (1, sv_i ar1), (2, sv_i ar2), (3, sv_i ar3), (4, sv_i ar4), (5, sv_i ar5)]) (st' := [sv_i ar2]) rfl ?_
          refine sv_cs C (index := 97) (k := 1) (rest := []) (by decide +kernel) (ct_X2_isYear l g A ty σ hok11 (ar2) ⟨by omega, by omega⟩) ⟨co_X2_isYear, in_X2, ⟨by decide, by decide, by decide +kernel⟩, Nat.le_of_ble_eq_true rfl, Nat.le_of_ble_eq_true rfl⟩ ml_X9_97 st_X2_isYear rfl rfl (Nat.le_of_ble_eq_true rfl) ⟨Nat.zero_le _, Nat.zero_le _⟩ (fun r18 σ19 hpo17 hok20 => ?_)
          obtain ⟨rfl, ⟨h21, rfl⟩ | ⟨h21, rfl⟩⟩ := hpo17
          · refine sv_same (st2 := [sv_i 1]) (lv2 := [(0, sv_r a), (1, sv_i ar1), (2, sv_i ar2), (3, sv_i ar3), (4, sv_i ar4), (5, sv_i ar5)]) rfl rfl ?_
            refine sv_if_f C.1 C.2.1 (cnd := .eq) (off := 23) (tgt := 59) (by decide +kernel) (by decide) ⟨by omega, by omega⟩ (show ¬ (1 = 0) by omega) ?_
            refine sv_go C.1 C.2.1 [(.iload_n 3, 1)] (pc' := 40) (by decide +kernel) rfl (lv' := [(0, sv_r a), (1, sv_i ar1), (2, sv_i ar2), (3, sv_i ar3), (4, sv_i ar4), (5, sv_i ar5)]) (st' := [sv_i ar3]) rfl ?_
            refine sv_cs C (index := 97) (k := 1) (rest := []) (by decide +kernel) (ct_X2_isYear l g A ty σ hok20 (ar3) ⟨by omega, by omega⟩) ⟨co_X2_isYear, in_X2, ⟨by decide, by decide, by decide +kernel⟩, Nat.le_of_ble_eq_true rfl, Nat.le_of_ble_eq_true rfl⟩ ml_X9_97 st_X2_isYear rfl rfl (Nat.le_of_ble_eq_true rfl) ⟨Nat.zero_le _, Nat.zero_le _⟩ (fun r23 σ24 hpo22 hok25 => ?_)
            obtain ⟨rfl, ⟨h26, rfl⟩ | ⟨h26, rfl⟩⟩ := hpo22
            · refine sv_same (st2 := [sv_i 1]) (lv2 := [(0, sv_r a), (1, sv_i ar1), (2, sv_i ar2), (3, sv_i ar3), (4, sv_i ar4), (5, sv_i ar5)]) rfl rfl ?_
              refine sv_if_f C.1 C.2.1 (cnd := .eq) (off := 16) (tgt := 59) (by decide +kernel) (by decide) ⟨by omega, by omega⟩ (show ¬ (1 = 0) by omega) ?_
              refine sv_go C.1 C.2.1 [(.iload_n 2, 1), (.iload_n 3, 1)] (pc' := 48) (by decide +kernel) rfl (lv' := [(0, sv_r a), (1, sv_i ar1), (2, sv_i ar2), (3, sv_i ar3), (4, sv_i ar4), (5, sv_i ar5)]) (st' := [sv_i ar3, sv_i ar2]) rfl ?_
              refine sv_icmp C.1 C.2.1 (cnd := .gt) (off := 11) (tgt := 59) (by decide +kernel) (by decide) ⟨by omega, by omega⟩ ⟨by omega, by omega⟩ (fun (h27 : ar3 < ar2) => ?_) (fun (h27 : ¬ (ar3 < ar2)) => ?_)
              · refine sv_go C.1 C.2.1 [(.bipush (-2), 2)] (pc' := 61) (by decide +kernel) rfl (lv' := [(0, sv_r a), (1, sv_i ar1), (2, sv_i ar2), (3, sv_i ar3), (4, sv_i ar4), (5, sv_i ar5)]) (st' := [sv_i ((-2))]) rfl ?_
                exact sv_iret C hr (by decide +kernel) hok25 (⟨⟨_, rfl, ⟨by omega, by omega⟩⟩, hI, hF⟩)
              · refine sv_go C.1 C.2.1 [(.iload_n 3, 1), (.iload_n 2, 1), (.isub, 1), (.bipush 20, 2)] (pc' := 56) (by decide +kernel) rfl (lv' := [(0, sv_r a), (1, sv_i ar1), (2, sv_i ar2), (3, sv_i ar3), (4, sv_i ar4), (5, sv_i ar5)]) (st' := [sv_i 20, sv_i (ar3 - ar2)]) rfl ?_
                refine sv_icmp C.1 C.2.1 (cnd := .lt) (off := 6) (tgt := 62) (by decide +kernel) (by decide) ⟨by omega, by omega⟩ ⟨by omega, by omega⟩ (fun (h28 : (ar3 - ar2) < 20) => ?_) (fun (h28 : ¬ ((ar3 - ar2) < 20)) => ?_)
                · refine sv_go C.1 C.2.1 [(.aload_n 0, 1)] (pc' := 63) (by decide +kernel) rfl (lv' := [(0, sv_r a), (1, sv_i ar1), (2, sv_i ar2), (3, sv_i ar3), (4, sv_i ar4), (5, sv_i ar5)]) (st' := [sv_r a]) rfl ?_
                  obtain ⟨v29, ev29, kv29⟩ := hI.ref (k := 3) k_a rfl
                  refine sv_gf C (index := 33) (ci := 8) (k := 3) (r := (RX9, TX9, 6)) (v := sv_r v29) (by decide +kernel) (by rw [k_a]; rfl) rfl (by decide) fl_X9_33 (congrArg sv_a ev29) ?_
                  refine sv_go C.1 C.2.1 [(.iload 5, 2)] (pc' := 68) (by decide +kernel) rfl (lv' := [(0, sv_r a), (1, sv_i ar1), (2, sv_i ar2), (3, sv_i ar3), (4, sv_i ar4), (5, sv_i ar5)]) (st' := [sv_i ar5, sv_r v29]) rfl ?_
                  refine sv_cv C (index := 161) (k := 1) (rest := []) (ci := 0) (r := (RX0, TX0, 12)) (by decide +kernel) (sf_X0_startTurns2 l g A ty σ hok25 hTA hI v29 kv29 (ar5) ⟨by omega, by omega⟩) ⟨co_X0_startTurns, in_X0, ⟨by decide, by decide, by decide +kernel⟩, Nat.le_of_ble_eq_true rfl, Nat.le_of_ble_eq_true rfl⟩ ml_X9_161 im_X0_startTurns se_X0_startTurns (by rw [kv29]; rfl) rfl rfl rfl (Nat.le_of_ble_eq_true rfl) ⟨Nat.zero_le _, Nat.zero_le _⟩ (fun r31 σ32 hpo30 hok33 => ?_)
                  obtain ⟨rfl, hIu34, hFu34, xu34⟩ := hpo30
                  have hGu34 := hF.tr hFu34 (by decide) (by decide)
                  have t35 : σ32 a 3 = (v29 : Int) + 1 := (hFu34.at k_a (by decide) (by decide)).trans ev29
                  obtain ⟨wu34, ewu34, hwu34⟩ := sv_rdn hIu34 (k := 2) kv29 rfl
                  refine sv_same (st2 := []) (lv2 := [(0, sv_r a), (1, sv_i ar1), (2, sv_i ar2), (3, sv_i ar3), (4, sv_i ar4), (5, sv_i ar5)]) rfl rfl ?_
                  refine sv_go C.1 C.2.1 [(.iload_n 2, 1), (.istore 6, 2)] (pc' := 74) (by decide +kernel) rfl (lv' := [(0, sv_r a), (1, sv_i ar1), (2, sv_i ar2), (3, sv_i ar3), (4, sv_i ar4), (5, sv_i ar5), (6, sv_i ar2)]) (st' := []) rfl ?_
                  have L38 : ∀ (n : Nat) (Xg36_l6 : Int) (Xg36_fv29_2 : Int) (σ37 : Nat → Nat → Int), (1 ≤ Xg36_l6 ∧ Xg36_l6 ≤ 2001) → (0 ≤ Xg36_fv29_2 ∧ Xg36_fv29_2 ≤ 7320) → (sv_ok ty σ37) → (sv_inv sp_1 ty σ37) → (sv_ofx [(4, 7), (4, 8), (4, 9), (4, 10), (5, 2), (5, 9), (5, 10), (5, 11)] [24, 25, 26, 27, 28, 29, 30, 32, 33, 34, 35, 36] ty σ σ37) → (σ37 a 3 = (v29 : Int) + 1) → (σ37 v29 2 = Xg36_fv29_2) → (Xg36_fv29_2 ≤ 366 * (Xg36_l6 - ar2)) → (2001 - Xg36_l6) < (n : Int) → sv_E p l e { frames := 6, cells := 0, slots := 0, locals := 134 } s m args below meth c 7 g A ty (fun r σ' => (∃ rv : Int, r = [sv_i rv] ∧ ((-2) ≤ rv ∧ rv ≤ 7320)) ∧ sv_inv sp_1 ty σ' ∧ sv_ofx [(4, 7), (4, 8), (4, 9), (4, 10), (5, 2), (5, 9), (5, 10), (5, 11)] [24, 25, 26, 27, 28, 29, 30, 32, 33, 34, 35, 36] ty σ σ') σ37 74 [(0, sv_r a), (1, sv_i ar1), (3, sv_i ar3), (4, sv_i ar4), (6, sv_i Xg36_l6)] [] := by
                    intro n
                    induction n with
                    | zero => intro Xg36_l6 Xg36_fv29_2 σ37 hXg36_l6 hXg36_fv29_2 okσ37 Iσ37 Fσ37 eσ37_0 eσ37_1 hr2 hmu; exact absurd hmu (by omega)
                    | succ n ih39 =>
                      intro Xg36_l6 Xg36_fv29_2 σ37 hXg36_l6 hXg36_fv29_2 okσ37 Iσ37 Fσ37 eσ37_0 eσ37_1 hr2 hmu
                      refine sv_go C.1 C.2.1 [(.iload 6, 2), (.iload_n 3, 1)] (pc' := 77) (by decide +kernel) rfl (lv' := [(0, sv_r a), (1, sv_i ar1), (3, sv_i ar3), (4, sv_i ar4), (6, sv_i Xg36_l6)]) (st' := [sv_i ar3, sv_i Xg36_l6]) rfl ?_
                      refine sv_icmp C.1 C.2.1 (cnd := .gt) (off := 34) (tgt := 111) (by decide +kernel) (by decide) ⟨by omega, by omega⟩ ⟨by omega, by omega⟩ (fun (h40 : ar3 < Xg36_l6) => ?_) (fun (h40 : ¬ (ar3 < Xg36_l6)) => ?_)
                      · refine sv_go C.1 C.2.1 [(.aload_n 0, 1)] (pc' := 112) (by decide +kernel) rfl (lv' := [(0, sv_r a), (1, sv_i ar1), (3, sv_i ar3), (4, sv_i ar4), (6, sv_i Xg36_l6)]) (st' := [sv_r a]) rfl ?_
                        refine sv_gf C (index := 33) (ci := 8) (k := 3) (r := (RX9, TX9, 6)) (v := sv_r v29) (by decide +kernel) (by rw [k_a]; rfl) rfl (by decide) fl_X9_33 (congrArg sv_a eσ37_0) ?_
                        refine sv_gf C (index := 168) (ci := 0) (k := 2) (r := (RX0, TX0, 12)) (v := sv_i Xg36_fv29_2) (by decide +kernel) (by rw [kv29]; rfl) rfl (by decide) fl_X9_168 (congrArg sv_i eσ37_1) ?_
                        exact sv_iret C hr (by decide +kernel) okσ37 (⟨⟨_, rfl, ⟨by omega, by omega⟩⟩, Iσ37, Fσ37⟩)
                      · refine sv_go C.1 C.2.1 [(.aload_n 0, 1)] (pc' := 81) (by decide +kernel) rfl (lv' := [(0, sv_r a), (1, sv_i ar1), (3, sv_i ar3), (4, sv_i ar4), (6, sv_i Xg36_l6)]) (st' := [sv_r a]) rfl ?_
                        obtain ⟨v41, ev41, kv41⟩ := Iσ37.ref (k := 2) k_a rfl
                        refine sv_gf C (index := 25) (ci := 8) (k := 2) (r := (RX9, TX9, 6)) (v := sv_r v41) (by decide +kernel) (by rw [k_a]; rfl) rfl (by decide) fl_X9_25 (congrArg sv_a ev41) ?_
                        refine sv_go C.1 C.2.1 [(.iload_n 1, 1)] (pc' := 85) (by decide +kernel) rfl (lv' := [(0, sv_r a), (1, sv_i ar1), (3, sv_i ar3), (4, sv_i ar4), (6, sv_i Xg36_l6)]) (st' := [sv_i ar1, sv_r v41]) rfl ?_
                        refine sv_aa C (N := "SaintsRoad$Place") (by decide) (n := 4) (by decide +kernel) (by rw [kv41]; rfl) (by decide) (by omega) (by omega) ?_
                        obtain ⟨v42, ev42, kv42⟩ := Iσ37.ref (k := (ar1 : Int).toNat) kv41 (by first | rfl | (show (if _ then _ else _) = _; rw [if_pos (by omega)]))
                        rw [ev42]
                        refine sv_go C.1 C.2.1 [(.iload 6, 2)] (pc' := 88) (by decide +kernel) rfl (lv' := [(0, sv_r a), (1, sv_i ar1), (3, sv_i ar3), (4, sv_i ar4), (6, sv_i Xg36_l6)]) (st' := [sv_i Xg36_l6, sv_r v42]) rfl ?_
                        refine sv_cv C (index := 118) (k := 1) (rest := []) (ci := 3) (r := (RX4, TX4, 11)) (by decide +kernel) (sf_X4_settle l g A ty σ37 okσ37 hTA Iσ37 v42 kv42 (Xg36_l6) ⟨by omega, by omega⟩) ⟨co_X4_settle, in_X4, ⟨by decide, by decide, by decide +kernel⟩, Nat.le_of_ble_eq_true rfl, Nat.le_of_ble_eq_true rfl⟩ ml_X9_118 im_X4_settle se_X4_settle (by rw [kv42]; rfl) rfl rfl rfl (Nat.le_of_ble_eq_true rfl) ⟨Nat.zero_le _, Nat.zero_le _⟩ (fun r44 σ45 hpo43 hok46 => ?_)
                        obtain ⟨rfl, hIu47, hFu47⟩ := hpo43
                        have hGu47 := Fσ37.tr hFu47 (by decide) (by decide)
                        have t48 : σ45 a 3 = (v29 : Int) + 1 := (hFu47.at k_a (by decide) (by decide)).trans eσ37_0
                        have t49 : σ45 v29 2 = Xg36_fv29_2 := (hFu47.at kv29 (by decide) (by decide)).trans eσ37_1
                        have t50 : σ45 a 2 = (v41 : Int) + 1 := (hFu47.at k_a (by decide) (by decide)).trans ev41
                        have t51 : σ45 v41 (ar1 : Int).toNat = (v42 : Int) + 1 := (hFu47.atA kv41 (by decide) (by decide)).trans ev42
                        refine sv_same (st2 := []) (lv2 := [(0, sv_r a), (1, sv_i ar1), (3, sv_i ar3), (4, sv_i ar4), (6, sv_i Xg36_l6)]) rfl rfl ?_
                        refine sv_go C.1 C.2.1 [(.aload_n 0, 1), (.aload_n 0, 1)] (pc' := 93) (by decide +kernel) rfl (lv' := [(0, sv_r a), (1, sv_i ar1), (3, sv_i ar3), (4, sv_i ar4), (6, sv_i Xg36_l6)]) (st' := [sv_r a, sv_r a]) rfl ?_
                        refine sv_gf C (index := 25) (ci := 8) (k := 2) (r := (RX9, TX9, 6)) (v := sv_r v41) (by decide +kernel) (by rw [k_a]; rfl) rfl (by decide) fl_X9_25 (congrArg sv_a t50) ?_
                        refine sv_go C.1 C.2.1 [(.iload_n 1, 1)] (pc' := 97) (by decide +kernel) rfl (lv' := [(0, sv_r a), (1, sv_i ar1), (3, sv_i ar3), (4, sv_i ar4), (6, sv_i Xg36_l6)]) (st' := [sv_i ar1, sv_r v41, sv_r a]) rfl ?_
                        refine sv_aa C (N := "SaintsRoad$Place") (by decide) (n := 4) (by decide +kernel) (by rw [kv41]; rfl) (by decide) (by omega) (by omega) ?_
                        rw [t51]
                        refine sv_go C.1 C.2.1 [(.iload 6, 2), (.iload 4, 2)] (pc' := 102) (by decide +kernel) rfl (lv' := [(0, sv_r a), (1, sv_i ar1), (3, sv_i ar3), (4, sv_i ar4), (6, sv_i Xg36_l6)]) (st' := [sv_i ar4, sv_i Xg36_l6, sv_r v42, sv_r a]) rfl ?_
                        refine sv_cv C (index := 164) (k := 3) (rest := []) (ci := 8) (r := (RX9, TX9, 6)) (by decide +kernel) (sf_X9_carryAll l g A ty σ45 hok46 hTA hIu47 a k_a v42 kv42 (Xg36_l6) ⟨by omega, by omega⟩ (ar4) ⟨by omega, by omega⟩ v29 kv29 (Xg36_fv29_2) ⟨by omega, by omega⟩ t48 t49) ⟨co_X9_carryAll, in_X9, ⟨by decide, by decide, by decide +kernel⟩, Nat.le_of_ble_eq_true rfl, Nat.le_of_ble_eq_true rfl⟩ ml_X9_164 im_X9_carryAll se_X9_carryAll (by rw [k_a]; rfl) rfl rfl rfl (Nat.le_of_ble_eq_true rfl) ⟨Nat.zero_le _, Nat.zero_le _⟩ (fun r53 σ54 hpo52 hok55 => ?_)
                        obtain ⟨rfl, hIu56, hFu56, xu56⟩ := hpo52
                        have hGu56 := hGu47.tr hFu56 (by decide) (by decide)
                        have t57 : σ54 a 3 = (v29 : Int) + 1 := (hFu56.at k_a (by decide) (by decide)).trans t48
                        have t58 : σ54 a 2 = (v41 : Int) + 1 := (hFu56.at k_a (by decide) (by decide)).trans t50
                        have t59 : σ54 v41 (ar1 : Int).toNat = (v42 : Int) + 1 := (hFu56.atA kv41 (by decide) (by decide)).trans t51
                        obtain ⟨wu56, ewu56, hwu56⟩ := sv_rdn hIu56 (k := 2) kv29 rfl
                        refine sv_same (st2 := []) (lv2 := [(0, sv_r a), (1, sv_i ar1), (3, sv_i ar3), (4, sv_i ar4), (6, sv_i Xg36_l6)]) rfl rfl ?_
                        refine sv_go C.1 C.2.1 [(.iinc 6 1, 3)] (pc' := 108) (by decide +kernel) rfl (lv' := [(0, sv_r a), (1, sv_i ar1), (3, sv_i ar3), (4, sv_i ar4), (6, sv_i (Xg36_l6 + 1))]) (st' := []) rfl ?_
                        refine sv_goto C.1 C.2.1 (off := (-34)) (tgt := 74) (by decide +kernel) (by decide) ?_
                        exact ih39 (Xg36_l6 + 1) wu56 σ54 ⟨by omega, by omega⟩ ⟨by omega, by omega⟩ hok55 hIu56 hGu56 t57 ewu56 (by omega) (by omega)
                  refine sv_pick [0, 1, 3, 4, 6] (lv2 := [(0, sv_r a), (1, sv_i ar1), (3, sv_i ar3), (4, sv_i ar4), (6, sv_i ar2)]) rfl ?_
                  exact L38 (((2001 - ar2 : Int)).toNat + 1) ar2 wu34 σ32 ⟨by omega, by omega⟩ ⟨by omega, by omega⟩ hok33 hIu34 hGu34 t35 ewu34 (by omega) (by omega)
                · refine sv_go C.1 C.2.1 [(.bipush (-2), 2)] (pc' := 61) (by decide +kernel) rfl (lv' := [(0, sv_r a), (1, sv_i ar1), (2, sv_i ar2), (3, sv_i ar3), (4, sv_i ar4), (5, sv_i ar5)]) (st' := [sv_i ((-2))]) rfl ?_
                  exact sv_iret C hr (by decide +kernel) hok25 (⟨⟨_, rfl, ⟨by omega, by omega⟩⟩, hI, hF⟩)
            · refine sv_same (st2 := [sv_i 0]) (lv2 := [(0, sv_r a), (1, sv_i ar1), (2, sv_i ar2), (3, sv_i ar3), (4, sv_i ar4), (5, sv_i ar5)]) rfl rfl ?_
              refine sv_if_t C.1 C.2.1 (cnd := .eq) (off := 16) (tgt := 59) (by decide +kernel) (by decide) ⟨by omega, by omega⟩ (show 0 = 0 by omega) ?_
              refine sv_go C.1 C.2.1 [(.bipush (-2), 2)] (pc' := 61) (by decide +kernel) rfl (lv' := [(0, sv_r a), (1, sv_i ar1), (2, sv_i ar2), (3, sv_i ar3), (4, sv_i ar4), (5, sv_i ar5)]) (st' := [sv_i ((-2))]) rfl ?_
              exact sv_iret C hr (by decide +kernel) hok25 (⟨⟨_, rfl, ⟨by omega, by omega⟩⟩, hI, hF⟩)
          · refine sv_same (st2 := [sv_i 0]) (lv2 := [(0, sv_r a), (1, sv_i ar1), (2, sv_i ar2), (3, sv_i ar3), (4, sv_i ar4), (5, sv_i ar5)]) rfl rfl ?_
            refine sv_if_t C.1 C.2.1 (cnd := .eq) (off := 23) (tgt := 59) (by decide +kernel) (by decide) ⟨by omega, by omega⟩ (show 0 = 0 by omega) ?_
            refine sv_go C.1 C.2.1 [(.bipush (-2), 2)] (pc' := 61) (by decide +kernel) rfl (lv' := [(0, sv_r a), (1, sv_i ar1), (2, sv_i ar2), (3, sv_i ar3), (4, sv_i ar4), (5, sv_i ar5)]) (st' := [sv_i ((-2))]) rfl ?_
            exact sv_iret C hr (by decide +kernel) hok20 (⟨⟨_, rfl, ⟨by omega, by omega⟩⟩, hI, hF⟩)
        · refine sv_go C.1 C.2.1 [(.bipush (-2), 2)] (pc' := 31) (by decide +kernel) rfl (lv' := [(0, sv_r a), (1, sv_i ar1), (2, sv_i ar2), (3, sv_i ar3), (4, sv_i ar4), (5, sv_i ar5)]) (st' := [sv_i ((-2))]) rfl ?_
          exact sv_iret C hr (by decide +kernel) hok11 (⟨⟨_, rfl, ⟨by omega, by omega⟩⟩, hI, hF⟩)
