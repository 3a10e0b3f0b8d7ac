theorem fl_X7_15 : Cond.fieldLink RX7 15 "SaintsRoad$Tape" "length" "I" ∈ lw_good := sv_mem 108 (by decide +kernel) rfl
theorem fl_X7_9 : Cond.fieldLink RX7 9 "SaintsRoad$Tape" "bytes" "[B" ∈ lw_good := sv_mem 107 (by decide +kernel) rfl
set_option maxHeartbeats 4000000 in
set_option maxRecDepth 100000 in
theorem sf_X7_addInt (l : Launch) (g : sv_G) (A : Nat → Prop) (ty : Nat → Nat) (σ : Nat → Nat → Int) (hok : sv_ok ty σ) (hTA : ∀ q, ty q ≠ 0 → A q) (hI : sv_inv sp_1 ty σ) (a : Nat) (k_a : ty a = 2) (four : Int) (h_four : (-2147483648) ≤ four ∧ four ≤ 2147483647) : sv_M l yX7_addInt cX7_addInt 3 none { frames := 0, cells := 0, slots := 0, locals := 0 } g A ty σ [sv_r a, sv_i four] (fun r σ' => (r = []) ∧ sv_inv sp_1 ty σ' ∧ sv_ofx [(2, 1)] [20] ty σ σ') := by
  refine sv_enter (by decide) (Nat.le_of_ble_eq_true rfl) ?_
  intro p e s m args below meth c C hr
  have C : sv_C g A RX7 cX7_addInt 3 p s m args meth c := C
  have hr : meth.sig.returnType = none := hr
  have hF : sv_ofx [(2, 1)] [20] ty σ σ := sv_ofx.rf
  refine sv_same (st2 := []) (lv2 := [(0, sv_r a), (1, sv_i four)]) rfl rfl ?_
  refine sv_go C.1 C.2.1 [(.aload_n 0, 1)] (pc' := 1) (by decide +kernel) rfl (lv' := [(0, sv_r a), (1, sv_i four)]) (st' := [sv_r a]) rfl ?_
  obtain ⟨v1, ev1, hv1⟩ := sv_rdn hI (k := 1) k_a rfl
  refine sv_gf C (index := 15) (ci := 6) (k := 1) (r := (RX7, TX7, 2)) (v := sv_i v1) (by decide +kernel) (by rw [k_a]; rfl) rfl (by decide) fl_X7_15 (congrArg sv_i ev1) ?_
  refine sv_go C.1 C.2.1 [(.iconst 4, 1), (.iadd, 1), (.sipush 4000, 3)] (pc' := 9) (by decide +kernel) rfl (lv' := [(0, sv_r a), (1, sv_i four)]) (st' := [sv_i 4000, sv_i (v1 + 4)]) rfl ?_
  refine sv_icmp C.1 C.2.1 (cnd := .le) (off := 4) (tgt := 13) (by decide +kernel) (by decide) ⟨by omega, by omega⟩ ⟨by omega, by omega⟩ (fun (h2 : (v1 + 4) ≤ 4000) => ?_) (fun (h2 : ¬ ((v1 + 4) ≤ 4000)) => ?_)
  · refine sv_go C.1 C.2.1 [(.bipush 24, 2), (.istore_n 2, 1)] (pc' := 16) (by decide +kernel) rfl (lv' := [(0, sv_r a), (1, sv_i four), (2, sv_i 24)]) (st' := []) rfl ?_
    have L5 : ∀ (n : Nat) (Xg3_l2 : Int) (Xg3_fa_1 : Int) (σ4 : Nat → Nat → Int), ((-8) ≤ Xg3_l2 ∧ Xg3_l2 ≤ 24) → (0 ≤ Xg3_fa_1 ∧ Xg3_fa_1 ≤ 4000) → (sv_ok ty σ4) → (sv_inv sp_1 ty σ4) → (sv_ofx [(2, 1)] [20] ty σ σ4) → (σ4 a 1 = Xg3_fa_1) → (Xg3_fa_1 * 8 + Xg3_l2 ≤ 31992) → (Xg3_l2 - (-8)) < (n : Int) → sv_E p l e { frames := 0, cells := 0, slots := 0, locals := 0 } s m args below meth c 3 g A ty (fun r σ' => (r = []) ∧ sv_inv sp_1 ty σ' ∧ sv_ofx [(2, 1)] [20] ty σ σ') σ4 16 [(0, sv_r a), (1, sv_i four), (2, sv_i Xg3_l2)] [] := by
      intro n
      induction n with
      | zero => intro Xg3_l2 Xg3_fa_1 σ4 hXg3_l2 hXg3_fa_1 okσ4 Iσ4 Fσ4 eσ4_0 hX hmu; exact absurd hmu (by omega)
      | succ n ih6 =>
        intro Xg3_l2 Xg3_fa_1 σ4 hXg3_l2 hXg3_fa_1 okσ4 Iσ4 Fσ4 eσ4_0 hX hmu
        refine sv_go C.1 C.2.1 [(.iload_n 2, 1)] (pc' := 17) (by decide +kernel) rfl (lv' := [(0, sv_r a), (1, sv_i four), (2, sv_i Xg3_l2)]) (st' := [sv_i Xg3_l2]) rfl ?_
        refine sv_if C.1 C.2.1 (cnd := .lt) (off := 32) (tgt := 49) (by decide +kernel) (by decide) ⟨by omega, by omega⟩ (fun (h7 : Xg3_l2 < 0) => ?_) (fun (h7 : ¬ (Xg3_l2 < 0)) => ?_)
        · exact sv_vret C hr (by decide +kernel) okσ4 (⟨rfl, Iσ4, Fσ4⟩)
        · refine sv_go C.1 C.2.1 [(.aload_n 0, 1)] (pc' := 21) (by decide +kernel) rfl (lv' := [(0, sv_r a), (1, sv_i four), (2, sv_i Xg3_l2)]) (st' := [sv_r a]) rfl ?_
          obtain ⟨v8, ev8, kv8⟩ := Iσ4.ref (k := 0) k_a rfl
          refine sv_gf C (index := 9) (ci := 6) (k := 0) (r := (RX7, TX7, 2)) (v := sv_r v8) (by decide +kernel) (by rw [k_a]; rfl) rfl (by decide) fl_X7_9 (congrArg sv_a ev8) ?_
          refine sv_go C.1 C.2.1 [(.aload_n 0, 1)] (pc' := 25) (by decide +kernel) rfl (lv' := [(0, sv_r a), (1, sv_i four), (2, sv_i Xg3_l2)]) (st' := [sv_r a, sv_r v8]) rfl ?_
          refine sv_gf C (index := 15) (ci := 6) (k := 1) (r := (RX7, TX7, 2)) (v := sv_i Xg3_fa_1) (by decide +kernel) (by rw [k_a]; rfl) rfl (by decide) fl_X7_15 (congrArg sv_i eσ4_0) ?_
          refine sv_go C.1 C.2.1 [(.iload_n 1, 1), (.iload_n 2, 1), (.ishr, 1), (.i2b, 1)] (pc' := 32) (by decide +kernel) rfl (lv' := [(0, sv_r a), (1, sv_i four), (2, sv_i Xg3_l2)]) (st' := [sv_i ((Int32.ofInt ((Int32.ofInt four >>> (Int32.ofInt Xg3_l2 &&& 31)).toInt)).toInt8.toInt32.toInt), sv_i Xg3_fa_1, sv_r v8]) rfl ?_
          have hb9 : (-2147483648) ≤ (Int32.ofInt four >>> (Int32.ofInt Xg3_l2 &&& 31)).toInt ∧ (Int32.ofInt four >>> (Int32.ofInt Xg3_l2 &&& 31)).toInt ≤ 2147483647 := sv_ioin2 (Int32.ofInt four >>> (Int32.ofInt Xg3_l2 &&& 31))
          have hb10 : (-128) ≤ (Int32.ofInt ((Int32.ofInt four >>> (Int32.ofInt Xg3_l2 &&& 31)).toInt)).toInt8.toInt32.toInt ∧ (Int32.ofInt ((Int32.ofInt four >>> (Int32.ofInt Xg3_l2 &&& 31)).toInt)).toInt8.toInt32.toInt ≤ 127 := sv_by (Int32.ofInt ((Int32.ofInt four >>> (Int32.ofInt Xg3_l2 &&& 31)).toInt))
          refine sv_bs C (n := 4000) (by decide +kernel) (by rw [kv8]; rfl) (by decide) (by omega) (by omega) ⟨by omega, by omega⟩ (hTA _ (by rw [kv8]; decide)) okσ4 (fun hok11 => ?_)
          have hI13 := Iσ4.up (a := v8) (k := (Xg3_fa_1 : Int).toNat) (z := (Int32.ofInt ((Int32.ofInt four >>> (Int32.ofInt Xg3_l2 &&& 31)).toInt)).toInt8.toInt32.toInt) (by rw [kv8]; exact trivial)
          have hF14 := Fσ4.up (a := v8) (k := (Xg3_fa_1 : Int).toNat) (z := (Int32.ofInt ((Int32.ofInt four >>> (Int32.ofInt Xg3_l2 &&& 31)).toInt)).toInt8.toInt32.toInt) (Or.inl (by rw [kv8]; decide))
          generalize eσ12 : sv_up σ4 v8 (Xg3_fa_1 : Int).toNat ((Int32.ofInt ((Int32.ofInt four >>> (Int32.ofInt Xg3_l2 &&& 31)).toInt)).toInt8.toInt32.toInt) = σ12 at hok11 hI13 hF14 ⊢
          have t15 : σ12 a 1 = Xg3_fa_1 := by rw [← eσ12, sv_up_a (sv_ne k_a kv8 (by decide))]; exact eσ4_0
          have t16 : σ12 a 0 = (v8 : Int) + 1 := by rw [← eσ12, sv_up_a (sv_ne k_a kv8 (by decide))]; exact ev8
          have t17 : σ12 v8 (Xg3_fa_1 : Int).toNat = (Int32.ofInt ((Int32.ofInt four >>> (Int32.ofInt Xg3_l2 &&& 31)).toInt)).toInt8.toInt32.toInt := by rw [← eσ12]; exact sv_up_s _ _ _ _
          refine sv_go C.1 C.2.1 [(.aload_n 0, 1), (.dup, 1)] (pc' := 35) (by decide +kernel) rfl (lv' := [(0, sv_r a), (1, sv_i four), (2, sv_i Xg3_l2)]) (st' := [sv_r a, sv_r a]) rfl ?_
          refine sv_gf C (index := 15) (ci := 6) (k := 1) (r := (RX7, TX7, 2)) (v := sv_i Xg3_fa_1) (by decide +kernel) (by rw [k_a]; rfl) rfl (by decide) fl_X7_15 (congrArg sv_i t15) ?_
          refine sv_go C.1 C.2.1 [(.iconst 1, 1), (.iadd, 1)] (pc' := 40) (by decide +kernel) rfl (lv' := [(0, sv_r a), (1, sv_i four), (2, sv_i Xg3_l2)]) (st' := [sv_i (Xg3_fa_1 + 1), sv_r a]) rfl ?_
          refine sv_pf C (index := 15) (ci := 6) (k := 1) (r := (RX7, TX7, 2)) (z := Xg3_fa_1 + 1) (by decide +kernel) (by rw [k_a]; rfl) rfl (by decide) rfl fl_X7_15 rfl (Or.inl rfl) ⟨by omega, by omega⟩ (hTA _ (by rw [k_a]; decide)) hok11 (fun hok18 => ?_)
          have hI20 := hI13.up (a := a) (k := 1) (z := Xg3_fa_1 + 1) (by rw [k_a]; exact ⟨by omega, by omega⟩)
          have hF21 := hF14.up (a := a) (k := 1) (z := Xg3_fa_1 + 1) (Or.inr (by rw [k_a]; decide))
          generalize eσ19 : sv_up σ12 a 1 (Xg3_fa_1 + 1) = σ19 at hok18 hI20 hF21 ⊢
          have t22 : σ19 a 0 = (v8 : Int) + 1 := by rw [← eσ19, sv_up_k (by decide)]; exact t16
          have t23 : σ19 v8 (Xg3_fa_1 : Int).toNat = (Int32.ofInt ((Int32.ofInt four >>> (Int32.ofInt Xg3_l2 &&& 31)).toInt)).toInt8.toInt32.toInt := by rw [← eσ19, sv_up_a (sv_ne kv8 k_a (by decide))]; exact t17
          have t24 : σ19 a 1 = Xg3_fa_1 + 1 := by rw [← eσ19]; exact sv_up_s _ _ _ _
          refine sv_go C.1 C.2.1 [(.iinc 2 (-8), 3)] (pc' := 46) (by decide +kernel) rfl (lv' := [(0, sv_r a), (1, sv_i four), (2, sv_i (Xg3_l2 + (-8)))]) (st' := []) rfl ?_
          refine sv_goto C.1 C.2.1 (off := (-30)) (tgt := 16) (by decide +kernel) (by decide) ?_
          exact ih6 (Xg3_l2 + (-8)) (Xg3_fa_1 + 1) σ19 ⟨by omega, by omega⟩ ⟨by omega, by omega⟩ hok18 hI20 hF21 t24 (by omega) (by omega)
    exact L5 (((24 - (-8) : Int)).toNat + 1) 24 v1 σ ⟨by omega, by omega⟩ ⟨by omega, by omega⟩ hok hI hF ev1 (by omega) (by omega)
  · exact sv_vret C hr (by decide +kernel) hok (⟨rfl, hI, hF⟩)

set_option maxHeartbeats 4000000 in
set_option maxRecDepth 100000 in
theorem sf_X7_byteAt (l : Launch) (g : sv_G) (A : Nat → Prop) (ty : Nat → Nat) (σ : Nat → Nat → Int) (hok : sv_ok ty σ) (hTA : ∀ q, ty q ≠ 0 → A q) (hI : sv_inv sp_1 ty σ) (a : Nat) (k_a : ty a = 2) (place : Int) (h_place : (-2147483648) ≤ place ∧ place ≤ 2147483647) : sv_M l yX7_byteAt cX7_byteAt 2 (some .int) { frames := 0, cells := 0, slots := 0, locals := 0 } g A ty σ [sv_r a, sv_i place] (fun r σ' => σ = σ' ∧ ∃ rv : Int, r = [sv_i rv] ∧ ((-1) ≤ rv ∧ rv ≤ 255) ∧ (0 ≤ rv → rv ≤ 255 → 0 ≤ place ∧ place < σ a 1)) := by
  refine sv_enter (by decide) (Nat.le_of_ble_eq_true rfl) ?_
  intro p e s m args below meth c C hr
  have C : sv_C g A RX7 cX7_byteAt 2 p s m args meth c := C
  have hr : meth.sig.returnType = (some .int) := hr
  have hF : sv_ofx [] [] ty σ σ := sv_ofx.rf
  refine sv_same (st2 := []) (lv2 := [(0, sv_r a), (1, sv_i place)]) rfl rfl ?_
  refine sv_go C.1 C.2.1 [(.iload_n 1, 1)] (pc' := 1) (by decide +kernel) rfl (lv' := [(0, sv_r a), (1, sv_i place)]) (st' := [sv_i place]) rfl ?_
  refine sv_if C.1 C.2.1 (cnd := .lt) (off := 24) (tgt := 25) (by decide +kernel) (by decide) ⟨by omega, by omega⟩ (fun (h1 : place < 0) => ?_) (fun (h1 : ¬ (place < 0)) => ?_)
  · refine sv_go C.1 C.2.1 [(.iconst (-1), 1)] (pc' := 26) (by decide +kernel) rfl (lv' := [(0, sv_r a), (1, sv_i place)]) (st' := [sv_i ((-1))]) rfl ?_
    exact sv_iret C hr (by decide +kernel) hok (⟨rfl, ⟨_, rfl, ⟨by omega, by omega⟩, fun _ _ => (by omega)⟩⟩)
  · refine sv_go C.1 C.2.1 [(.iload_n 1, 1), (.aload_n 0, 1)] (pc' := 6) (by decide +kernel) rfl (lv' := [(0, sv_r a), (1, sv_i place)]) (st' := [sv_r a, sv_i place]) rfl ?_
    obtain ⟨v2, ev2, hv2⟩ := sv_rdn hI (k := 1) k_a rfl
    refine sv_gf C (index := 15) (ci := 6) (k := 1) (r := (RX7, TX7, 2)) (v := sv_i v2) (by decide +kernel) (by rw [k_a]; rfl) rfl (by decide) fl_X7_15 (congrArg sv_i ev2) ?_
    refine sv_icmp C.1 C.2.1 (cnd := .ge) (off := 16) (tgt := 25) (by decide +kernel) (by decide) ⟨by omega, by omega⟩ ⟨by omega, by omega⟩ (fun (h3 : v2 ≤ place) => ?_) (fun (h3 : ¬ (v2 ≤ place)) => ?_)
    · refine sv_go C.1 C.2.1 [(.iconst (-1), 1)] (pc' := 26) (by decide +kernel) rfl (lv' := [(0, sv_r a), (1, sv_i place)]) (st' := [sv_i ((-1))]) rfl ?_
      exact sv_iret C hr (by decide +kernel) hok (⟨rfl, ⟨_, rfl, ⟨by omega, by omega⟩, fun _ _ => (by omega)⟩⟩)
    · refine sv_go C.1 C.2.1 [(.aload_n 0, 1)] (pc' := 13) (by decide +kernel) rfl (lv' := [(0, sv_r a), (1, sv_i place)]) (st' := [sv_r a]) rfl ?_
      obtain ⟨v4, ev4, kv4⟩ := hI.ref (k := 0) k_a rfl
      refine sv_gf C (index := 9) (ci := 6) (k := 0) (r := (RX7, TX7, 2)) (v := sv_r v4) (by decide +kernel) (by rw [k_a]; rfl) rfl (by decide) fl_X7_9 (congrArg sv_a ev4) ?_
      refine sv_go C.1 C.2.1 [(.iload_n 1, 1)] (pc' := 17) (by decide +kernel) rfl (lv' := [(0, sv_r a), (1, sv_i place)]) (st' := [sv_i place, sv_r v4]) rfl ?_
      refine sv_ba C (n := 4000) (by decide +kernel) (by rw [kv4]; rfl) (by decide) (by omega) (by omega) ?_
      obtain ⟨v5, ev5, hv5⟩ := sv_rdeb hok (a := v4) (k := (place : Int).toNat) (n := 4000) (by rw [kv4]; rfl) (by omega)
      rw [ev5]
      refine sv_go C.1 C.2.1 [(.sipush 255, 3), (.iand, 1)] (pc' := 22) (by decide +kernel) rfl (lv' := [(0, sv_r a), (1, sv_i place)]) (st' := [sv_i ((Int32.ofInt v5 &&& Int32.ofInt 255).toInt)]) rfl ?_
      have hb6 : 0 ≤ (Int32.ofInt v5 &&& Int32.ofInt 255).toInt ∧ (Int32.ofInt v5 &&& Int32.ofInt 255).toInt ≤ 255 := sv_andr v5 255 (by decide) (by decide)
      refine sv_goto C.1 C.2.1 (off := 4) (tgt := 26) (by decide +kernel) (by decide) ?_
      exact sv_iret C hr (by decide +kernel) hok (⟨rfl, ⟨_, rfl, ⟨by omega, by omega⟩, fun _ _ => (by omega)⟩⟩)

theorem fl_X3_9 : Cond.fieldLink RX3 9 "SaintsRoad$Feast" "kind" "I" ∈ lw_good := sv_mem 190 (by decide +kernel) rfl
theorem fl_X3_15 : Cond.fieldLink RX3 15 "SaintsRoad$Feast" "vigil" "Z" ∈ lw_good := sv_mem 203 (by decide +kernel) rfl
theorem fl_X3_19 : Cond.fieldLink RX3 19 "SaintsRoad$Feast" "octave" "Z" ∈ lw_good := sv_mem 206 (by decide +kernel) rfl
theorem fl_X3_22 : Cond.fieldLink RX3 22 "SaintsRoad$Feast" "from" "I" ∈ lw_good := sv_mem 209 (by decide +kernel) rfl
theorem fl_X3_25 : Cond.fieldLink RX3 25 "SaintsRoad$Feast" "till" "I" ∈ lw_good := sv_mem 211 (by decide +kernel) rfl
set_option maxHeartbeats 4000000 in
set_option maxRecDepth 100000 in
theorem sf_X3_clear (l : Launch) (g : sv_G) (A : Nat → Prop) (ty : Nat → Nat) (σ : Nat → Nat → Int) (hok : sv_ok ty σ) (hTA : ∀ q, ty q ≠ 0 → A q) (hI : sv_inv sp_1 ty σ) (a : Nat) (k_a : ty a = 8) (v : Int) (h_v : (-2147483648) ≤ v ∧ v ≤ 2147483647) : sv_M l yX3_clear cX3_clear 2 none { frames := 0, cells := 0, slots := 0, locals := 0 } g A ty σ [sv_r a, sv_i v] (fun r σ' => (r = []) ∧ sv_inv sp_1 ty σ' ∧ sv_ofx [(8, 2), (8, 8), (8, 9), (8, 10), (8, 11)] [] ty σ σ') := by
  refine sv_enter (by decide) (Nat.le_of_ble_eq_true rfl) ?_
  intro p e s m args below meth c C hr
  have C : sv_C g A RX3 cX3_clear 2 p s m args meth c := C
  have hr : meth.sig.returnType = none := hr
  have hF : sv_ofx [(8, 2), (8, 8), (8, 9), (8, 10), (8, 11)] [] ty σ σ := sv_ofx.rf
  refine sv_same (st2 := []) (lv2 := [(0, sv_r a), (1, sv_i v)]) rfl rfl ?_
  refine sv_go C.1 C.2.1 [(.aload_n 0, 1), (.iload_n 1, 1)] (pc' := 2) (by decide +kernel) rfl (lv' := [(0, sv_r a), (1, sv_i v)]) (st' := [sv_i v, sv_r a]) rfl ?_
  refine sv_pf C (index := 9) (ci := 2) (k := 2) (r := (RX3, TX3, 12)) (z := v) (by decide +kernel) (by rw [k_a]; rfl) rfl (by decide) rfl fl_X3_9 rfl (Or.inl rfl) ⟨by omega, by omega⟩ (hTA _ (by rw [k_a]; decide)) hok (fun hok1 => ?_)
  have hI3 := hI.up (a := a) (k := 2) (z := v) (by rw [k_a]; exact trivial)
  have hF4 := hF.up (a := a) (k := 2) (z := v) (Or.inr (by rw [k_a]; decide))
  generalize eσ2 : sv_up σ a 2 v = σ2 at hok1 hI3 hF4 ⊢
  have t5 : σ2 a 2 = v := by rw [← eσ2]; exact sv_up_s _ _ _ _
  refine sv_go C.1 C.2.1 [(.aload_n 0, 1), (.iconst 0, 1)] (pc' := 7) (by decide +kernel) rfl (lv' := [(0, sv_r a), (1, sv_i v)]) (st' := [sv_i 0, sv_r a]) rfl ?_
  refine sv_pf C (index := 15) (ci := 2) (k := 8) (r := (RX3, TX3, 12)) (z := 0) (by decide +kernel) (by rw [k_a]; rfl) rfl (by decide) rfl fl_X3_15 rfl (Or.inr (Or.inl rfl)) ⟨by omega, by omega⟩ (hTA _ (by rw [k_a]; decide)) hok1 (fun hok6 => ?_)
  have hI8 := hI3.up (a := a) (k := 8) (z := 0) (by rw [k_a]; exact trivial)
  have hF9 := hF4.up (a := a) (k := 8) (z := 0) (Or.inr (by rw [k_a]; decide))
  generalize eσ7 : sv_up σ2 a 8 0 = σ7 at hok6 hI8 hF9 ⊢
  have t10 : σ7 a 2 = v := by rw [← eσ7, sv_up_k (by decide)]; exact t5
  have t11 : σ7 a 8 = 0 := by rw [← eσ7]; exact sv_up_s _ _ _ _
  refine sv_go C.1 C.2.1 [(.aload_n 0, 1), (.iconst 0, 1)] (pc' := 12) (by decide +kernel) rfl (lv' := [(0, sv_r a), (1, sv_i v)]) (st' := [sv_i 0, sv_r a]) rfl ?_
  refine sv_pf C (index := 19) (ci := 2) (k := 9) (r := (RX3, TX3, 12)) (z := 0) (by decide +kernel) (by rw [k_a]; rfl) rfl (by decide) rfl fl_X3_19 rfl (Or.inr (Or.inl rfl)) ⟨by omega, by omega⟩ (hTA _ (by rw [k_a]; decide)) hok6 (fun hok12 => ?_)
  have hI14 := hI8.up (a := a) (k := 9) (z := 0) (by rw [k_a]; exact trivial)
  have hF15 := hF9.up (a := a) (k := 9) (z := 0) (Or.inr (by rw [k_a]; decide))
  generalize eσ13 : sv_up σ7 a 9 0 = σ13 at hok12 hI14 hF15 ⊢
  have t16 : σ13 a 2 = v := by rw [← eσ13, sv_up_k (by decide)]; exact t10
  have t17 : σ13 a 8 = 0 := by rw [← eσ13, sv_up_k (by decide)]; exact t11
  have t18 : σ13 a 9 = 0 := by rw [← eσ13]; exact sv_up_s _ _ _ _
  refine sv_go C.1 C.2.1 [(.aload_n 0, 1), (.iconst 1, 1)] (pc' := 17) (by decide +kernel) rfl (lv' := [(0, sv_r a), (1, sv_i v)]) (st' := [sv_i 1, sv_r a]) rfl ?_
  refine sv_pf C (index := 22) (ci := 2) (k := 10) (r := (RX3, TX3, 12)) (z := 1) (by decide +kernel) (by rw [k_a]; rfl) rfl (by decide) rfl fl_X3_22 rfl (Or.inl rfl) ⟨by omega, by omega⟩ (hTA _ (by rw [k_a]; decide)) hok12 (fun hok19 => ?_)
  have hI21 := hI14.up (a := a) (k := 10) (z := 1) (by rw [k_a]; exact trivial)
  have hF22 := hF15.up (a := a) (k := 10) (z := 1) (Or.inr (by rw [k_a]; decide))
  generalize eσ20 : sv_up σ13 a 10 1 = σ20 at hok19 hI21 hF22 ⊢
  have t23 : σ20 a 2 = v := by rw [← eσ20, sv_up_k (by decide)]; exact t16
  have t24 : σ20 a 8 = 0 := by rw [← eσ20, sv_up_k (by decide)]; exact t17
  have t25 : σ20 a 9 = 0 := by rw [← eσ20, sv_up_k (by decide)]; exact t18
  have t26 : σ20 a 10 = 1 := by rw [← eσ20]; exact sv_up_s _ _ _ _
  refine sv_go C.1 C.2.1 [(.aload_n 0, 1), (.sipush 2000, 3)] (pc' := 24) (by decide +kernel) rfl (lv' := [(0, sv_r a), (1, sv_i v)]) (st' := [sv_i 2000, sv_r a]) rfl ?_
  refine sv_pf C (index := 25) (ci := 2) (k := 11) (r := (RX3, TX3, 12)) (z := 2000) (by decide +kernel) (by rw [k_a]; rfl) rfl (by decide) rfl fl_X3_25 rfl (Or.inl rfl) ⟨by omega, by omega⟩ (hTA _ (by rw [k_a]; decide)) hok19 (fun hok27 => ?_)
  have hI29 := hI21.up (a := a) (k := 11) (z := 2000) (by rw [k_a]; exact trivial)
  have hF30 := hF22.up (a := a) (k := 11) (z := 2000) (Or.inr (by rw [k_a]; decide))
  generalize eσ28 : sv_up σ20 a 11 2000 = σ28 at hok27 hI29 hF30 ⊢
  have t31 : σ28 a 2 = v := by rw [← eσ28, sv_up_k (by decide)]; exact t23
  have t32 : σ28 a 8 = 0 := by rw [← eσ28, sv_up_k (by decide)]; exact t24
  have t33 : σ28 a 9 = 0 := by rw [← eσ28, sv_up_k (by decide)]; exact t25
  have t34 : σ28 a 10 = 1 := by rw [← eσ28, sv_up_k (by decide)]; exact t26
  have t35 : σ28 a 11 = 2000 := by rw [← eσ28]; exact sv_up_s _ _ _ _
  exact sv_vret C hr (by decide +kernel) hok27 (⟨rfl, hI29, hF30⟩)

theorem fl_X3_28 : Cond.fieldLink RX3 28 "SaintsRoad$Feast" "name" "J" ∈ lw_good := sv_mem 185 (by decide +kernel) rfl
theorem fl_X3_32 : Cond.fieldLink RX3 32 "SaintsRoad$Feast" "letterCount" "I" ∈ lw_good := sv_mem 189 (by decide +kernel) rfl
theorem ml_X3_35 : Cond.methodLink RX3 35 yX7_byteAt ∈ lw_good := sv_mem 609 (by decide +kernel) rfl
theorem co_X7_byteAt : Cond.code yX7_byteAt cX7_byteAt 2 (some .int) ∈ lw_good := sv_mem 459 (by decide +kernel) rfl
theorem in_X7 : Cond.initialized RX7 ∈ lw_good := sv_mem 73 (by decide +kernel) rfl
theorem im_X7_byteAt : Cond.instanceMethod yX7_byteAt ∈ lw_good := sv_mem 457 (by decide +kernel) rfl
theorem se_X7_byteAt : Cond.selects RX7 yX7_byteAt yX7_byteAt ∈ lw_good := sv_mem 458 (by decide +kernel) rfl
set_option maxHeartbeats 4000000 in
set_option maxRecDepth 100000 in
theorem sf_X3_setName (l : Launch) (g : sv_G) (A : Nat → Prop) (ty : Nat → Nat) (σ : Nat → Nat → Int) (hok : sv_ok ty σ) (hTA : ∀ q, ty q ≠ 0 → A q) (hI : sv_inv sp_1 ty σ) (a : Nat) (k_a : ty a = 8) (b : Nat) (k_b : ty b = 2) (v : Int) (h_v : 0 ≤ v ∧ v ≤ 4000) (w : Int) (h_w : (-4000) ≤ w ∧ w ≤ 4000) : sv_M l yX3_setName cX3_setName 5 none { frames := 1, cells := 0, slots := 0, locals := 21 } g A ty σ [sv_r a, sv_r b, sv_i v, sv_i w] (fun r σ' => (r = []) ∧ sv_inv sp_1 ty σ' ∧ sv_ofx [(8, 0), (8, 1)] [] ty σ σ') := by
  refine sv_enter (by decide) (Nat.le_of_ble_eq_true rfl) ?_
  intro p e s m args below meth c C hr
  have C : sv_C g A RX3 cX3_setName 5 p s m args meth c := C
  have hr : meth.sig.returnType = none := hr
  have hF : sv_ofx [(8, 0), (8, 1)] [] ty σ σ := sv_ofx.rf
  refine sv_same (st2 := []) (lv2 := [(0, sv_r a), (1, sv_r b), (2, sv_i v), (3, sv_i w)]) rfl rfl ?_
  refine sv_go C.1 C.2.1 [(.aload_n 0, 1), (.lconst 0, 1)] (pc' := 2) (by decide +kernel) rfl (lv' := [(0, sv_r a), (1, sv_r b), (2, sv_i v), (3, sv_i w)]) (st' := [sv_l 0, sv_r a]) rfl ?_
  refine sv_pf C (index := 28) (ci := 2) (k := 0) (r := (RX3, TX3, 12)) (z := 0) (by decide +kernel) (by rw [k_a]; rfl) rfl (by decide) rfl fl_X3_28 rfl (Or.inr (Or.inr (Or.inr (Or.inl rfl)))) ⟨by omega, by omega⟩ (hTA _ (by rw [k_a]; decide)) hok (fun hok1 => ?_)
  have hI3 := hI.up (a := a) (k := 0) (z := 0) (by rw [k_a]; exact trivial)
  have hF4 := hF.up (a := a) (k := 0) (z := 0) (Or.inr (by rw [k_a]; decide))
  generalize eσ2 : sv_up σ a 0 0 = σ2 at hok1 hI3 hF4 ⊢
  have t5 : σ2 a 0 = 0 := by rw [← eσ2]; exact sv_up_s _ _ _ _
  refine sv_go C.1 C.2.1 [(.aload_n 0, 1), (.iload_n 3, 1)] (pc' := 7) (by decide +kernel) rfl (lv' := [(0, sv_r a), (1, sv_r b), (2, sv_i v), (3, sv_i w)]) (st' := [sv_i w, sv_r a]) rfl ?_
  refine sv_pf C (index := 32) (ci := 2) (k := 1) (r := (RX3, TX3, 12)) (z := w) (by decide +kernel) (by rw [k_a]; rfl) rfl (by decide) rfl fl_X3_32 rfl (Or.inl rfl) ⟨by omega, by omega⟩ (hTA _ (by rw [k_a]; decide)) hok1 (fun hok6 => ?_)
  have hI8 := hI3.up (a := a) (k := 1) (z := w) (by rw [k_a]; exact trivial)
  have hF9 := hF4.up (a := a) (k := 1) (z := w) (Or.inr (by rw [k_a]; decide))
  generalize eσ7 : sv_up σ2 a 1 w = σ7 at hok6 hI8 hF9 ⊢
  have t10 : σ7 a 0 = 0 := by rw [← eσ7, sv_up_k (by decide)]; exact t5
  have t11 : σ7 a 1 = w := by rw [← eσ7]; exact sv_up_s _ _ _ _
  refine sv_go C.1 C.2.1 [(.iload_n 3, 1), (.iconst 1, 1), (.isub, 1), (.istore 4, 2)] (pc' := 15) (by decide +kernel) rfl (lv' := [(0, sv_r a), (1, sv_r b), (2, sv_i v), (3, sv_i w), (4, sv_i (w - 1))]) (st' := []) rfl ?_
  have L14 : ∀ (n : Nat) (Xg12_l4 : Int) (Xg12_fa_0 : Int) (σ13 : Nat → Nat → Int), ((-4001) ≤ Xg12_l4 ∧ Xg12_l4 ≤ 3999) → (sv_in64 Xg12_fa_0) → (sv_ok ty σ13) → (sv_inv sp_1 ty σ13) → (sv_ofx [(8, 0), (8, 1)] [] ty σ σ13) → (σ13 a 0 = Xg12_fa_0) → (σ13 a 1 = w) → (Xg12_l4 - (-4001)) < (n : Int) → sv_E p l e { frames := 1, cells := 0, slots := 0, locals := 21 } s m args below meth c 5 g A ty (fun r σ' => (r = []) ∧ sv_inv sp_1 ty σ' ∧ sv_ofx [(8, 0), (8, 1)] [] ty σ σ') σ13 15 [(0, sv_r a), (1, sv_r b), (2, sv_i v), (4, sv_i Xg12_l4)] [] := by
    intro n
    induction n with
    | zero => intro Xg12_l4 Xg12_fa_0 σ13 hXg12_l4 hXg12_fa_0 okσ13 Iσ13 Fσ13 eσ13_0 eσ13_1 hmu; exact absurd hmu (by omega)
    | succ n ih15 =>
      intro Xg12_l4 Xg12_fa_0 σ13 hXg12_l4 hXg12_fa_0 okσ13 Iσ13 Fσ13 eσ13_0 eσ13_1 hmu
      refine sv_go C.1 C.2.1 [(.iload 4, 2)] (pc' := 17) (by decide +kernel) rfl (lv' := [(0, sv_r a), (1, sv_r b), (2, sv_i v), (4, sv_i Xg12_l4)]) (st' := [sv_i Xg12_l4]) rfl ?_
      refine sv_if C.1 C.2.1 (cnd := .lt) (off := 32) (tgt := 49) (by decide +kernel) (by decide) ⟨by omega, by omega⟩ (fun (h16 : Xg12_l4 < 0) => ?_) (fun (h16 : ¬ (Xg12_l4 < 0)) => ?_)
      · exact sv_vret C hr (by decide +kernel) okσ13 (⟨rfl, Iσ13, Fσ13⟩)
      · refine sv_go C.1 C.2.1 [(.aload_n 0, 1), (.aload_n 0, 1)] (pc' := 22) (by decide +kernel) rfl (lv' := [(0, sv_r a), (1, sv_r b), (2, sv_i v), (4, sv_i Xg12_l4)]) (st' := [sv_r a, sv_r a]) rfl ?_
        refine sv_gf C (index := 28) (ci := 2) (k := 0) (r := (RX3, TX3, 12)) (v := sv_l Xg12_fa_0) (by decide +kernel) (by rw [k_a]; rfl) rfl (by decide) fl_X3_28 (congrArg sv_l eσ13_0) ?_
        refine sv_go C.1 C.2.1 [(.iconst 5, 1)] (pc' := 26) (by decide +kernel) rfl (lv' := [(0, sv_r a), (1, sv_r b), (2, sv_i v), (4, sv_i Xg12_l4)]) (st' := [sv_i 5, sv_l Xg12_fa_0, sv_r a]) rfl ?_
        refine sv_lshl C.1 C.2.1 (by decide +kernel) (fun w17 hw17 => ?_)
        refine sv_go C.1 C.2.1 [(.aload_n 1, 1), (.iload_n 2, 1), (.iload 4, 2), (.iadd, 1)] (pc' := 32) (by decide +kernel) rfl (lv' := [(0, sv_r a), (1, sv_r b), (2, sv_i v), (4, sv_i Xg12_l4)]) (st' := [sv_i (v + Xg12_l4), sv_r b, sv_l w17, sv_r a]) rfl ?_
        refine sv_cv C (index := 35) (k := 1) (rest := [sv_l w17, sv_r a]) (ci := 6) (r := (RX7, TX7, 2)) (by decide +kernel) (sf_X7_byteAt l g A ty σ13 okσ13 hTA Iσ13 b k_b (v + Xg12_l4) ⟨by omega, by omega⟩) ⟨co_X7_byteAt, in_X7, ⟨by decide, by decide, by decide +kernel⟩, Nat.le_of_ble_eq_true rfl, Nat.le_of_ble_eq_true rfl⟩ ml_X3_35 im_X7_byteAt se_X7_byteAt (by rw [k_b]; rfl) rfl rfl rfl (Nat.le_of_ble_eq_true rfl) ⟨Nat.zero_le _, Nat.zero_le _⟩ (fun r19 σ20 hpo18 hok21 => ?_)
        obtain ⟨rfl, ⟨vu22, rfl, hvu22, ivu22_0⟩⟩ := hpo18
        refine sv_same (st2 := [sv_i vu22, sv_l w17, sv_r a]) (lv2 := [(0, sv_r a), (1, sv_r b), (2, sv_i v), (4, sv_i Xg12_l4)]) rfl rfl ?_
        refine sv_go C.1 C.2.1 [(.bipush 96, 2), (.isub, 1)] (pc' := 38) (by decide +kernel) rfl (lv' := [(0, sv_r a), (1, sv_r b), (2, sv_i v), (4, sv_i Xg12_l4)]) (st' := [sv_i (vu22 - 96), sv_l w17, sv_r a]) rfl ?_
        refine sv_i2l C.1 C.2.1 (by decide +kernel) ⟨by omega, by omega⟩ ?_
        refine sv_lor C.1 C.2.1 (by decide +kernel) (fun w23 hw23 => ?_)
        refine sv_pf C (index := 28) (ci := 2) (k := 0) (r := (RX3, TX3, 12)) (z := w23) (by decide +kernel) (by rw [k_a]; rfl) rfl (by decide) rfl fl_X3_28 rfl (Or.inr (Or.inr (Or.inr (Or.inl rfl)))) ⟨by omega, by omega⟩ (hTA _ (by rw [k_a]; decide)) hok21 (fun hok24 => ?_)
        have hI26 := Iσ13.up (a := a) (k := 0) (z := w23) (by rw [k_a]; exact trivial)
        have hF27 := Fσ13.up (a := a) (k := 0) (z := w23) (Or.inr (by rw [k_a]; decide))
        generalize eσ25 : sv_up σ13 a 0 w23 = σ25 at hok24 hI26 hF27 ⊢
        have t28 : σ25 a 1 = w := by rw [← eσ25, sv_up_k (by decide)]; exact eσ13_1
        have t29 : σ25 a 0 = w23 := by rw [← eσ25]; exact sv_up_s _ _ _ _
        refine sv_go C.1 C.2.1 [(.iinc 4 (-1), 3)] (pc' := 46) (by decide +kernel) rfl (lv' := [(0, sv_r a), (1, sv_r b), (2, sv_i v), (4, sv_i (Xg12_l4 + (-1)))]) (st' := []) rfl ?_
        refine sv_goto C.1 C.2.1 (off := (-31)) (tgt := 15) (by decide +kernel) (by decide) ?_
        exact ih15 (Xg12_l4 + (-1)) w23 σ25 ⟨by omega, by omega⟩ ⟨by omega, by omega⟩ hok24 hI26 hF27 t29 t28 (by omega)
  refine sv_pick [0, 1, 2, 4] (lv2 := [(0, sv_r a), (1, sv_r b), (2, sv_i v), (4, sv_i (w - 1))]) rfl ?_
  exact L14 ((((w - 1) - (-4001) : Int)).toNat + 1) (w - 1) 0 σ7 ⟨by omega, by omega⟩ ⟨by omega, by omega⟩ hok6 hI8 hF9 t10 t11 (by omega)

theorem cl_X3_41 : Cond.constantLong RX3 41 (31) ∈ lw_good := sv_mem 642 (by decide +kernel) rfl
set_option maxHeartbeats 4000000 in
set_option maxRecDepth 100000 in
theorem sf_X3_letter (l : Launch) (g : sv_G) (A : Nat → Prop) (ty : Nat → Nat) (σ : Nat → Nat → Int) (hok : sv_ok ty σ) (hTA : ∀ q, ty q ≠ 0 → A q) (hI : sv_inv sp_1 ty σ) (a : Nat) (k_a : ty a = 8) (v : Int) (h_v : (-2147483648) ≤ v ∧ v ≤ 2147483647) : sv_M l yX3_letter cX3_letter 2 (some .int) { frames := 0, cells := 0, slots := 0, locals := 0 } g A ty σ [sv_r a, sv_i v] (fun r σ' => σ = σ' ∧ ∃ rv : Int, r = [sv_i rv] ∧ ((-2147483648) ≤ rv ∧ rv ≤ 2147483647)) := by
  refine sv_enter (by decide) (Nat.le_of_ble_eq_true rfl) ?_
  intro p e s m args below meth c C hr
  have C : sv_C g A RX3 cX3_letter 2 p s m args meth c := C
  have hr : meth.sig.returnType = (some .int) := hr
  have hF : sv_ofx [] [] ty σ σ := sv_ofx.rf
  refine sv_same (st2 := []) (lv2 := [(0, sv_r a), (1, sv_i v)]) rfl rfl ?_
  refine sv_go C.1 C.2.1 [(.iload_n 1, 1)] (pc' := 1) (by decide +kernel) rfl (lv' := [(0, sv_r a), (1, sv_i v)]) (st' := [sv_i v]) rfl ?_
  refine sv_if C.1 C.2.1 (cnd := .lt) (off := 30) (tgt := 31) (by decide +kernel) (by decide) ⟨by omega, by omega⟩ (fun (h1 : v < 0) => ?_) (fun (h1 : ¬ (v < 0)) => ?_)
  · refine sv_go C.1 C.2.1 [(.iconst (-1), 1)] (pc' := 32) (by decide +kernel) rfl (lv' := [(0, sv_r a), (1, sv_i v)]) (st' := [sv_i ((-1))]) rfl ?_
    exact sv_iret C hr (by decide +kernel) hok (⟨rfl, ⟨_, rfl, ⟨by omega, by omega⟩⟩⟩)
  · refine sv_go C.1 C.2.1 [(.iload_n 1, 1), (.aload_n 0, 1)] (pc' := 6) (by decide +kernel) rfl (lv' := [(0, sv_r a), (1, sv_i v)]) (st' := [sv_r a, sv_i v]) rfl ?_
    obtain ⟨v2, ev2, hv2⟩ := sv_rdk hok (a := a) (k := 1) (ci := 2) (r := (RX3, TX3, 12)) (by rw [k_a]; rfl) rfl (by decide) rfl
    refine sv_gf C (index := 32) (ci := 2) (k := 1) (r := (RX3, TX3, 12)) (v := sv_i v2) (by decide +kernel) (by rw [k_a]; rfl) rfl (by decide) fl_X3_32 (congrArg sv_i ev2) ?_
    refine sv_icmp C.1 C.2.1 (cnd := .ge) (off := 22) (tgt := 31) (by decide +kernel) (by decide) ⟨by omega, by omega⟩ ⟨by omega, by omega⟩ (fun (h3 : v2 ≤ v) => ?_) (fun (h3 : ¬ (v2 ≤ v)) => ?_)
    · refine sv_go C.1 C.2.1 [(.iconst (-1), 1)] (pc' := 32) (by decide +kernel) rfl (lv' := [(0, sv_r a), (1, sv_i v)]) (st' := [sv_i ((-1))]) rfl ?_
      exact sv_iret C hr (by decide +kernel) hok (⟨rfl, ⟨_, rfl, ⟨by omega, by omega⟩⟩⟩)
    · refine sv_go C.1 C.2.1 [(.aload_n 0, 1)] (pc' := 13) (by decide +kernel) rfl (lv' := [(0, sv_r a), (1, sv_i v)]) (st' := [sv_r a]) rfl ?_
      obtain ⟨v4, ev4, hv4⟩ := sv_rdl hok (a := a) (k := 0) (ci := 2) (r := (RX3, TX3, 12)) (by rw [k_a]; rfl) rfl (by decide) rfl
      refine sv_gf C (index := 28) (ci := 2) (k := 0) (r := (RX3, TX3, 12)) (v := sv_l v4) (by decide +kernel) (by rw [k_a]; rfl) rfl (by decide) fl_X3_28 (congrArg sv_l ev4) ?_
      refine sv_go C.1 C.2.1 [(.iconst 5, 1), (.iload_n 1, 1), (.imul, 1)] (pc' := 19) (by decide +kernel) rfl (lv' := [(0, sv_r a), (1, sv_i v)]) (st' := [sv_i (5 * v), sv_l v4]) rfl ?_
      refine sv_lshr C.1 C.2.1 (by decide +kernel) (fun w5 hw5 => ?_)
      refine sv_ldc2 C (index := 41) (z := 31) (by decide +kernel) cl_X3_41 (by decide) ?_
      refine sv_land C.1 C.2.1 (by decide +kernel) (fun w6 hw6 => ?_)
      refine sv_l2i C.1 C.2.1 (by decide +kernel) (fun w7 hw7 => ?_)
      refine sv_go C.1 C.2.1 [(.bipush 96, 2), (.iadd, 1)] (pc' := 28) (by decide +kernel) rfl (lv' := [(0, sv_r a), (1, sv_i v)]) (st' := [sv_i (w7 + 96)]) rfl ?_
      refine sv_goto C.1 C.2.1 (off := 4) (tgt := 32) (by decide +kernel) (by decide) ?_
      obtain ⟨w8, hw8, ew8⟩ := sv_wr (w7 + 96)
      refine sv_sameD (st2 := [sv_i w8]) (lv2 := [(0, sv_r a), (1, sv_i v)]) (by simp only [List.map_cons, List.map_nil, sv_den_i, ew8]) rfl ?_
      exact sv_iret C hr (by decide +kernel) hok (⟨rfl, ⟨_, rfl, ⟨by omega, by omega⟩⟩⟩)

theorem fl_X3_43 : Cond.fieldLink RX3 43 "SaintsRoad$Feast" "rank" "I" ∈ lw_good := sv_mem 199 (by decide +kernel) rfl
theorem ml_X3_46 : Cond.methodLink RX3 46 yX3_letter ∈ lw_good := sv_mem 638 (by decide +kernel) rfl
theorem co_X3_letter : Cond.code yX3_letter cX3_letter 2 (some .int) ∈ lw_good := sv_mem 641 (by decide +kernel) rfl
theorem in_X3 : Cond.initialized RX3 ∈ lw_good := sv_mem 77 (by decide +kernel) rfl
theorem im_X3_letter : Cond.instanceMethod yX3_letter ∈ lw_good := sv_mem 640 (by decide +kernel) rfl
theorem se_X3_letter : Cond.selects RX3 yX3_letter yX3_letter ∈ lw_good := sv_mem 19 (by decide +kernel) rfl
set_option maxHeartbeats 4000000 in
set_option maxRecDepth 100000 in
theorem sf_X3_tell (l : Launch) (g : sv_G) (A : Nat → Prop) (ty : Nat → Nat) (σ : Nat → Nat → Int) (hok : sv_ok ty σ) (hTA : ∀ q, ty q ≠ 0 → A q) (hI : sv_inv sp_1 ty σ) (a : Nat) (k_a : ty a = 8) (v : Int) (h_v : (-2147483648) ≤ v ∧ v ≤ 2147483647) : sv_M l yX3_tell cX3_tell 2 (some .int) { frames := 1, cells := 0, slots := 0, locals := 21 } g A ty σ [sv_r a, sv_i v] (fun r σ' => σ = σ' ∧ ∃ rv : Int, r = [sv_i rv] ∧ ((-2147483648) ≤ rv ∧ rv ≤ 2147483647)) := by
  refine sv_enter (by decide) (Nat.le_of_ble_eq_true rfl) ?_
  intro p e s m args below meth c C hr
  have C : sv_C g A RX3 cX3_tell 2 p s m args meth c := C
  have hr : meth.sig.returnType = (some .int) := hr
  have hF : sv_ofx [] [] ty σ σ := sv_ofx.rf
  refine sv_same (st2 := []) (lv2 := [(0, sv_r a), (1, sv_i v)]) rfl rfl ?_
  refine sv_go C.1 C.2.1 [(.iload_n 1, 1)] (pc' := 1) (by decide +kernel) rfl (lv' := [(0, sv_r a), (1, sv_i v)]) (st' := [sv_i v]) rfl ?_
  rcases (show v = 0 ∨ v = 1 ∨ v = 2 ∨ v = 3 ∨ v = 4 ∨ v = 5 ∨ v = 6 ∨ (v ≠ 0 ∧ v ≠ 1 ∧ v ≠ 2 ∧ v ≠ 3 ∧ v ≠ 4 ∧ v ≠ 5 ∧ v ≠ 6) by omega) with h1 | h1 | h1 | h1 | h1 | h1 | h1 | h1
  · refine sv_tsI C.1 C.2.1 (dflt := 94) (lo := 0) (hi := 6) (offs := #[43, 48, 53, 66, 79, 84, 89]) (len := 43) (off := 43) (tgt := 44) (by decide +kernel) 0 h1 (by decide) rfl (by decide) ?_
    refine sv_go C.1 C.2.1 [(.aload_n 0, 1)] (pc' := 45) (by decide +kernel) rfl (lv' := [(0, sv_r a), (1, sv_i v)]) (st' := [sv_r a]) rfl ?_
    obtain ⟨v2, ev2, hv2⟩ := sv_rdk hok (a := a) (k := 2) (ci := 2) (r := (RX3, TX3, 12)) (by rw [k_a]; rfl) rfl (by decide) rfl
    refine sv_gf C (index := 9) (ci := 2) (k := 2) (r := (RX3, TX3, 12)) (v := sv_i v2) (by decide +kernel) (by rw [k_a]; rfl) rfl (by decide) fl_X3_9 (congrArg sv_i ev2) ?_
    exact sv_iret C hr (by decide +kernel) hok (⟨rfl, ⟨_, rfl, ⟨by omega, by omega⟩⟩⟩)
  · refine sv_tsI C.1 C.2.1 (dflt := 94) (lo := 0) (hi := 6) (offs := #[43, 48, 53, 66, 79, 84, 89]) (len := 43) (off := 48) (tgt := 49) (by decide +kernel) 1 h1 (by decide) rfl (by decide) ?_
    refine sv_go C.1 C.2.1 [(.aload_n 0, 1)] (pc' := 50) (by decide +kernel) rfl (lv' := [(0, sv_r a), (1, sv_i v)]) (st' := [sv_r a]) rfl ?_
    obtain ⟨v3, ev3, hv3⟩ := sv_rdk hok (a := a) (k := 7) (ci := 2) (r := (RX3, TX3, 12)) (by rw [k_a]; rfl) rfl (by decide) rfl
    refine sv_gf C (index := 43) (ci := 2) (k := 7) (r := (RX3, TX3, 12)) (v := sv_i v3) (by decide +kernel) (by rw [k_a]; rfl) rfl (by decide) fl_X3_43 (congrArg sv_i ev3) ?_
    exact sv_iret C hr (by decide +kernel) hok (⟨rfl, ⟨_, rfl, ⟨by omega, by omega⟩⟩⟩)
  · refine sv_tsI C.1 C.2.1 (dflt := 94) (lo := 0) (hi := 6) (offs := #[43, 48, 53, 66, 79, 84, 89]) (len := 43) (off := 53) (tgt := 54) (by decide +kernel) 2 h1 (by decide) rfl (by decide) ?_
    refine sv_go C.1 C.2.1 [(.aload_n 0, 1)] (pc' := 55) (by decide +kernel) rfl (lv' := [(0, sv_r a), (1, sv_i v)]) (st' := [sv_r a]) rfl ?_
    obtain ⟨v4, ev4, hv4⟩ := sv_rdkz hok (a := a) (k := 8) (ci := 2) (r := (RX3, TX3, 12)) (by rw [k_a]; rfl) rfl (by decide) rfl
    refine sv_gf C (index := 15) (ci := 2) (k := 8) (r := (RX3, TX3, 12)) (v := sv_i v4) (by decide +kernel) (by rw [k_a]; rfl) rfl (by decide) fl_X3_15 (congrArg sv_i ev4) ?_
    refine sv_if C.1 C.2.1 (cnd := .eq) (off := 7) (tgt := 65) (by decide +kernel) (by decide) ⟨by omega, by omega⟩ (fun (h5 : v4 = 0) => ?_) (fun (h5 : ¬ (v4 = 0)) => ?_)
    · refine sv_go C.1 C.2.1 [(.iconst 0, 1)] (pc' := 66) (by decide +kernel) rfl (lv' := [(0, sv_r a), (1, sv_i v)]) (st' := [sv_i 0]) rfl ?_
      exact sv_iret C hr (by decide +kernel) hok (⟨rfl, ⟨_, rfl, ⟨by omega, by omega⟩⟩⟩)
    · refine sv_go C.1 C.2.1 [(.iconst 1, 1)] (pc' := 62) (by decide +kernel) rfl (lv' := [(0, sv_r a), (1, sv_i v)]) (st' := [sv_i 1]) rfl ?_
      refine sv_goto C.1 C.2.1 (off := 4) (tgt := 66) (by decide +kernel) (by decide) ?_
      exact sv_iret C hr (by decide +kernel) hok (⟨rfl, ⟨_, rfl, ⟨by omega, by omega⟩⟩⟩)
  · refine sv_tsI C.1 C.2.1 (dflt := 94) (lo := 0) (hi := 6) (offs := #[43, 48, 53, 66, 79, 84, 89]) (len := 43) (off := 66) (tgt := 67) (by decide +kernel) 3 h1 (by decide) rfl (by decide) ?_
    refine sv_go C.1 C.2.1 [(.aload_n 0, 1)] (pc' := 68) (by decide +kernel) rfl (lv' := [(0, sv_r a), (1, sv_i v)]) (st' := [sv_r a]) rfl ?_
    obtain ⟨v6, ev6, hv6⟩ := sv_rdkz hok (a := a) (k := 9) (ci := 2) (r := (RX3, TX3, 12)) (by rw [k_a]; rfl) rfl (by decide) rfl
    refine sv_gf C (index := 19) (ci := 2) (k := 9) (r := (RX3, TX3, 12)) (v := sv_i v6) (by decide +kernel) (by rw [k_a]; rfl) rfl (by decide) fl_X3_19 (congrArg sv_i ev6) ?_
    refine sv_if C.1 C.2.1 (cnd := .eq) (off := 7) (tgt := 78) (by decide +kernel) (by decide) ⟨by omega, by omega⟩ (fun (h7 : v6 = 0) => ?_) (fun (h7 : ¬ (v6 = 0)) => ?_)
    · refine sv_go C.1 C.2.1 [(.iconst 0, 1)] (pc' := 79) (by decide +kernel) rfl (lv' := [(0, sv_r a), (1, sv_i v)]) (st' := [sv_i 0]) rfl ?_
      exact sv_iret C hr (by decide +kernel) hok (⟨rfl, ⟨_, rfl, ⟨by omega, by omega⟩⟩⟩)
    · refine sv_go C.1 C.2.1 [(.iconst 1, 1)] (pc' := 75) (by decide +kernel) rfl (lv' := [(0, sv_r a), (1, sv_i v)]) (st' := [sv_i 1]) rfl ?_
      refine sv_goto C.1 C.2.1 (off := 4) (tgt := 79) (by decide +kernel) (by decide) ?_
      exact sv_iret C hr (by decide +kernel) hok (⟨rfl, ⟨_, rfl, ⟨by omega, by omega⟩⟩⟩)
  · refine sv_tsI C.1 C.2.1 (dflt := 94) (lo := 0) (hi := 6) (offs := #[43, 48, 53, 66, 79, 84, 89]) (len := 43) (off := 79) (tgt := 80) (by decide +kernel) 4 h1 (by decide) rfl (by decide) ?_
    refine sv_go C.1 C.2.1 [(.aload_n 0, 1)] (pc' := 81) (by decide +kernel) rfl (lv' := [(0, sv_r a), (1, sv_i v)]) (st' := [sv_r a]) rfl ?_
    obtain ⟨v8, ev8, hv8⟩ := sv_rdk hok (a := a) (k := 10) (ci := 2) (r := (RX3, TX3, 12)) (by rw [k_a]; rfl) rfl (by decide) rfl
    refine sv_gf C (index := 22) (ci := 2) (k := 10) (r := (RX3, TX3, 12)) (v := sv_i v8) (by decide +kernel) (by rw [k_a]; rfl) rfl (by decide) fl_X3_22 (congrArg sv_i ev8) ?_
    exact sv_iret C hr (by decide +kernel) hok (⟨rfl, ⟨_, rfl, ⟨by omega, by omega⟩⟩⟩)
  · refine sv_tsI C.1 C.2.1 (dflt := 94) (lo := 0) (hi := 6) (offs := #[43, 48, 53, 66, 79, 84, 89]) (len := 43) (off := 84) (tgt := 85) (by decide +kernel) 5 h1 (by decide) rfl (by decide) ?_
    refine sv_go C.1 C.2.1 [(.aload_n 0, 1)] (pc' := 86) (by decide +kernel) rfl (lv' := [(0, sv_r a), (1, sv_i v)]) (st' := [sv_r a]) rfl ?_
    obtain ⟨v9, ev9, hv9⟩ := sv_rdk hok (a := a) (k := 11) (ci := 2) (r := (RX3, TX3, 12)) (by rw [k_a]; rfl) rfl (by decide) rfl
    refine sv_gf C (index := 25) (ci := 2) (k := 11) (r := (RX3, TX3, 12)) (v := sv_i v9) (by decide +kernel) (by rw [k_a]; rfl) rfl (by decide) fl_X3_25 (congrArg sv_i ev9) ?_
    exact sv_iret C hr (by decide +kernel) hok (⟨rfl, ⟨_, rfl, ⟨by omega, by omega⟩⟩⟩)
  · refine sv_tsI C.1 C.2.1 (dflt := 94) (lo := 0) (hi := 6) (offs := #[43, 48, 53, 66, 79, 84, 89]) (len := 43) (off := 89) (tgt := 90) (by decide +kernel) 6 h1 (by decide) rfl (by decide) ?_
    refine sv_go C.1 C.2.1 [(.aload_n 0, 1)] (pc' := 91) (by decide +kernel) rfl (lv' := [(0, sv_r a), (1, sv_i v)]) (st' := [sv_r a]) rfl ?_
    obtain ⟨v10, ev10, hv10⟩ := sv_rdk hok (a := a) (k := 1) (ci := 2) (r := (RX3, TX3, 12)) (by rw [k_a]; rfl) rfl (by decide) rfl
    refine sv_gf C (index := 32) (ci := 2) (k := 1) (r := (RX3, TX3, 12)) (v := sv_i v10) (by decide +kernel) (by rw [k_a]; rfl) rfl (by decide) fl_X3_32 (congrArg sv_i ev10) ?_
    exact sv_iret C hr (by decide +kernel) hok (⟨rfl, ⟨_, rfl, ⟨by omega, by omega⟩⟩⟩)
  · refine sv_tsO C.1 C.2.1 (dflt := 94) (lo := 0) (hi := 6) (offs := #[43, 48, 53, 66, 79, 84, 89]) (len := 43) (tgt := 95) (by decide +kernel) ⟨by omega, by omega⟩ (by omega) (by decide) ?_
    refine sv_go C.1 C.2.1 [(.iload_n 1, 1), (.bipush 10, 2)] (pc' := 98) (by decide +kernel) rfl (lv' := [(0, sv_r a), (1, sv_i v)]) (st' := [sv_i 10, sv_i v]) rfl ?_
    refine sv_icmp C.1 C.2.1 (cnd := .lt) (off := 14) (tgt := 112) (by decide +kernel) (by decide) ⟨by omega, by omega⟩ ⟨by omega, by omega⟩ (fun (h11 : v < 10) => ?_) (fun (h11 : ¬ (v < 10)) => ?_)
    · refine sv_go C.1 C.2.1 [(.iconst (-1), 1)] (pc' := 113) (by decide +kernel) rfl (lv' := [(0, sv_r a), (1, sv_i v)]) (st' := [sv_i ((-1))]) rfl ?_
      exact sv_iret C hr (by decide +kernel) hok (⟨rfl, ⟨_, rfl, ⟨by omega, by omega⟩⟩⟩)
    · refine sv_go C.1 C.2.1 [(.aload_n 0, 1), (.iload_n 1, 1), (.bipush 10, 2), (.isub, 1)] (pc' := 106) (by decide +kernel) rfl (lv' := [(0, sv_r a), (1, sv_i v)]) (st' := [sv_i (v - 10), sv_r a]) rfl ?_
      refine sv_cv C (index := 46) (k := 1) (rest := []) (ci := 2) (r := (RX3, TX3, 12)) (by decide +kernel) (sf_X3_letter l g A ty σ hok hTA hI a k_a (v - 10) ⟨by omega, by omega⟩) ⟨co_X3_letter, in_X3, ⟨by decide, by decide, by decide +kernel⟩, Nat.le_of_ble_eq_true rfl, Nat.le_of_ble_eq_true rfl⟩ ml_X3_46 im_X3_letter se_X3_letter (by rw [k_a]; rfl) rfl rfl rfl (Nat.le_of_ble_eq_true rfl) ⟨Nat.zero_le _, Nat.zero_le _⟩ (fun r13 σ14 hpo12 hok15 => ?_)
      obtain ⟨rfl, ⟨vu16, rfl, hvu16⟩⟩ := hpo12
      refine sv_same (st2 := [sv_i vu16]) (lv2 := [(0, sv_r a), (1, sv_i v)]) rfl rfl ?_
      refine sv_goto C.1 C.2.1 (off := 4) (tgt := 113) (by decide +kernel) (by decide) ?_
      exact sv_iret C hr (by decide +kernel) hok15 (⟨rfl, ⟨_, rfl, ⟨by omega, by omega⟩⟩⟩)

theorem fl_X3_71 : Cond.fieldLink RX3 71 "SaintsRoad$Feast" "date" "I" ∈ lw_good := sv_mem 193 (by decide +kernel) rfl
theorem fl_X3_61 : Cond.fieldLink RX3 61 "SaintsRoad$Feast" "month" "I" ∈ lw_good := sv_mem 191 (by decide +kernel) rfl
theorem ml_X3_74 : Cond.methodLink RX3 74 yX2_monthLength ∈ lw_good := sv_mem 705 (by decide +kernel) rfl
theorem ml_X3_78 : Cond.methodLink RX3 78 yX2_monthStart ∈ lw_good := sv_mem 709 (by decide +kernel) rfl
set_option maxHeartbeats 4000000 in
set_option maxRecDepth 100000 in
theorem sf_X3_fixedDay (l : Launch) (g : sv_G) (A : Nat → Prop) (ty : Nat → Nat) (σ : Nat → Nat → Int) (hok : sv_ok ty σ) (hTA : ∀ q, ty q ≠ 0 → A q) (hI : sv_inv sp_1 ty σ) (a : Nat) (k_a : ty a = 8) (y : Int) (h_y : 0 ≤ y ∧ y ≤ 2000) : sv_M l yX3_fixedDay cX3_fixedDay 3 (some .int) { frames := 2, cells := 0, slots := 0, locals := 41 } g A ty σ [sv_r a, sv_i y] (fun r σ' => σ = σ' ∧ ∃ rv : Int, r = [sv_i rv] ∧ ((-2147483648) ≤ rv ∧ rv ≤ 2147483647)) := by
  refine sv_enter (by decide) (Nat.le_of_ble_eq_true rfl) ?_
  intro p e s m args below meth c C hr
  have C : sv_C g A RX3 cX3_fixedDay 3 p s m args meth c := C
  have hr : meth.sig.returnType = (some .int) := hr
  have hF : sv_ofx [] [] ty σ σ := sv_ofx.rf
  refine sv_same (st2 := []) (lv2 := [(0, sv_r a), (1, sv_i y)]) rfl rfl ?_
  refine sv_go C.1 C.2.1 [(.aload_n 0, 1)] (pc' := 1) (by decide +kernel) rfl (lv' := [(0, sv_r a), (1, sv_i y)]) (st' := [sv_r a]) rfl ?_
  obtain ⟨v1, ev1, hv1⟩ := sv_rdk hok (a := a) (k := 4) (ci := 2) (r := (RX3, TX3, 12)) (by rw [k_a]; rfl) rfl (by decide) rfl
  refine sv_gf C (index := 71) (ci := 2) (k := 4) (r := (RX3, TX3, 12)) (v := sv_i v1) (by decide +kernel) (by rw [k_a]; rfl) rfl (by decide) fl_X3_71 (congrArg sv_i ev1) ?_
  refine sv_go C.1 C.2.1 [(.iload_n 1, 1), (.aload_n 0, 1)] (pc' := 6) (by decide +kernel) rfl (lv' := [(0, sv_r a), (1, sv_i y)]) (st' := [sv_r a, sv_i y, sv_i v1]) rfl ?_
  obtain ⟨v2, ev2, hv2⟩ := sv_rdk hok (a := a) (k := 3) (ci := 2) (r := (RX3, TX3, 12)) (by rw [k_a]; rfl) rfl (by decide) rfl
  refine sv_gf C (index := 61) (ci := 2) (k := 3) (r := (RX3, TX3, 12)) (v := sv_i v2) (by decide +kernel) (by rw [k_a]; rfl) rfl (by decide) fl_X3_61 (congrArg sv_i ev2) ?_
  refine sv_cs C (index := 74) (k := 2) (rest := [sv_i v1]) (by decide +kernel) (sf_X2_monthLength l g A ty σ hok hTA hI (y) ⟨by omega, by omega⟩ (v2) ⟨by omega, by omega⟩) ⟨co_X2_monthLength, in_X2, ⟨by decide, by decide, by decide +kernel⟩, Nat.le_of_ble_eq_true rfl, Nat.le_of_ble_eq_true rfl⟩ ml_X3_74 st_X2_monthLength rfl rfl (Nat.le_of_ble_eq_true rfl) ⟨Nat.zero_le _, Nat.zero_le _⟩ (fun r4 σ5 hpo3 hok6 => ?_)
  obtain ⟨rfl, ⟨vu7, rfl, hvu7⟩⟩ := hpo3
  refine sv_same (st2 := [sv_i vu7, sv_i v1]) (lv2 := [(0, sv_r a), (1, sv_i y)]) rfl rfl ?_
  have J10 : ∀ (Jg9_s0 : Int), (0 ≤ Jg9_s0 ∧ Jg9_s0 ≤ 1) → sv_E p l e { frames := 2, cells := 0, slots := 0, locals := 41 } s m args below meth c 3 g A ty (fun r σ' => σ = σ' ∧ ∃ rv : Int, r = [sv_i rv] ∧ ((-2147483648) ≤ rv ∧ rv ≤ 2147483647)) σ 20 [(0, sv_r a), (1, sv_i y)] [sv_i Jg9_s0] := by
    intro Jg9_s0 hJg9_s0
    refine sv_go C.1 C.2.1 [(.istore_n 2, 1), (.iload_n 2, 1)] (pc' := 22) (by decide +kernel) rfl (lv' := [(0, sv_r a), (1, sv_i y), (2, sv_i Jg9_s0)]) (st' := [sv_i Jg9_s0]) rfl ?_
    refine sv_if C.1 C.2.1 (cnd := .eq) (off := 21) (tgt := 43) (by decide +kernel) (by decide) ⟨by omega, by omega⟩ (fun (h11 : Jg9_s0 = 0) => ?_) (fun (h11 : ¬ (Jg9_s0 = 0)) => ?_)
    · refine sv_go C.1 C.2.1 [(.bipush (-10), 2)] (pc' := 45) (by decide +kernel) rfl (lv' := [(0, sv_r a), (1, sv_i y), (2, sv_i Jg9_s0)]) (st' := [sv_i ((-10))]) rfl ?_
      exact sv_iret C hr (by decide +kernel) hok6 (⟨rfl, ⟨_, rfl, ⟨by omega, by omega⟩⟩⟩)
    · refine sv_go C.1 C.2.1 [(.iload_n 1, 1), (.aload_n 0, 1)] (pc' := 27) (by decide +kernel) rfl (lv' := [(0, sv_r a), (1, sv_i y), (2, sv_i Jg9_s0)]) (st' := [sv_r a, sv_i y]) rfl ?_
      refine sv_gf C (index := 61) (ci := 2) (k := 3) (r := (RX3, TX3, 12)) (v := sv_i v2) (by decide +kernel) (by rw [k_a]; rfl) rfl (by decide) fl_X3_61 (congrArg sv_i ev2) ?_
      refine sv_cs C (index := 78) (k := 2) (rest := []) (by decide +kernel) (sf_X2_monthStart l g A ty σ hok6 hTA hI (y) ⟨by omega, by omega⟩ (v2) ⟨by omega, by omega⟩) ⟨co_X2_monthStart, in_X2, ⟨by decide, by decide, by decide +kernel⟩, Nat.le_of_ble_eq_true rfl, Nat.le_of_ble_eq_true rfl⟩ ml_X3_78 st_X2_monthStart rfl rfl (Nat.le_of_ble_eq_true rfl) ⟨Nat.zero_le _, Nat.zero_le _⟩ (fun r13 σ14 hpo12 hok15 => ?_)
      obtain ⟨rfl, ⟨vu16, rfl, hvu16⟩⟩ := hpo12
      refine sv_same (st2 := [sv_i vu16]) (lv2 := [(0, sv_r a), (1, sv_i y), (2, sv_i Jg9_s0)]) rfl rfl ?_
      refine sv_go C.1 C.2.1 [(.aload_n 0, 1)] (pc' := 34) (by decide +kernel) rfl (lv' := [(0, sv_r a), (1, sv_i y), (2, sv_i Jg9_s0)]) (st' := [sv_r a, sv_i vu16]) rfl ?_
      refine sv_gf C (index := 71) (ci := 2) (k := 4) (r := (RX3, TX3, 12)) (v := sv_i v1) (by decide +kernel) (by rw [k_a]; rfl) rfl (by decide) fl_X3_71 (congrArg sv_i ev1) ?_
      refine sv_go C.1 C.2.1 [(.iadd, 1), (.iconst 1, 1), (.isub, 1)] (pc' := 40) (by decide +kernel) rfl (lv' := [(0, sv_r a), (1, sv_i y), (2, sv_i Jg9_s0)]) (st' := [sv_i ((vu16 + v1) - 1)]) rfl ?_
      refine sv_goto C.1 C.2.1 (off := 5) (tgt := 45) (by decide +kernel) (by decide) ?_
      obtain ⟨w17, hw17, ew17⟩ := sv_wr ((vu16 + v1) - 1)
      refine sv_sameD (st2 := [sv_i w17]) (lv2 := [(0, sv_r a), (1, sv_i y), (2, sv_i Jg9_s0)]) (by simp only [List.map_cons, List.map_nil, sv_den_i, ew17]) rfl ?_
      exact sv_iret C hr (by decide +kernel) hok15 (⟨rfl, ⟨_, rfl, ⟨by omega, by omega⟩⟩⟩)
  refine sv_icmp C.1 C.2.1 (cnd := .gt) (off := 7) (tgt := 19) (by decide +kernel) (by decide) ⟨by omega, by omega⟩ ⟨by omega, by omega⟩ (fun (h8 : vu7 < v1) => ?_) (fun (h8 : ¬ (vu7 < v1)) => ?_)
  · refine sv_go C.1 C.2.1 [(.iconst 0, 1)] (pc' := 20) (by decide +kernel) rfl (lv' := [(0, sv_r a), (1, sv_i y)]) (st' := [sv_i 0]) rfl ?_
    exact J10 0 ⟨by omega, by omega⟩
  · refine sv_go C.1 C.2.1 [(.iconst 1, 1)] (pc' := 16) (by decide +kernel) rfl (lv' := [(0, sv_r a), (1, sv_i y)]) (st' := [sv_i 1]) rfl ?_
    refine sv_goto C.1 C.2.1 (off := 4) (tgt := 20) (by decide +kernel) (by decide) ?_
    exact J10 1 ⟨by omega, by omega⟩

theorem ml_X3_49 : Cond.methodLink RX3 49 yX3_fixedDay ∈ lw_good := sv_mem 701 (by decide +kernel) rfl
theorem co_X3_fixedDay : Cond.code yX3_fixedDay cX3_fixedDay 3 (some .int) ∈ lw_good := sv_mem 704 (by decide +kernel) rfl
theorem im_X3_fixedDay : Cond.instanceMethod yX3_fixedDay ∈ lw_good := sv_mem 703 (by decide +kernel) rfl
theorem se_X3_fixedDay : Cond.selects RX3 yX3_fixedDay yX3_fixedDay ∈ lw_good := sv_mem 21 (by decide +kernel) rfl
theorem fl_X3_52 : Cond.fieldLink RX3 52 "SaintsRoad$Feast" "shift" "I" ∈ lw_good := sv_mem 195 (by decide +kernel) rfl
theorem ml_X3_55 : Cond.methodLink RX3 55 yX2_isDay ∈ lw_good := sv_mem 710 (by decide +kernel) rfl
theorem co_X2_isDay : Cond.code yX2_isDay cX2_isDay 2 (some .boolean) ∈ lw_good := sv_mem 673 (by decide +kernel) rfl
theorem st_X2_isDay : Cond.static yX2_isDay ∈ lw_good := sv_mem 672 (by decide +kernel) rfl
theorem fl_X3_64 : Cond.fieldLink RX3 64 "SaintsRoad$Feast" "week" "I" ∈ lw_good := sv_mem 197 (by decide +kernel) rfl
theorem ml_X3_67 : Cond.methodLink RX3 67 yX2_sundayOf ∈ lw_good := sv_mem 711 (by decide +kernel) rfl
theorem co_X2_sundayOf : Cond.code yX2_sundayOf cX2_sundayOf 6 (some .int) ∈ lw_good := sv_mem 713 (by decide +kernel) rfl
theorem st_X2_sundayOf : Cond.static yX2_sundayOf ∈ lw_good := sv_mem 712 (by decide +kernel) rfl
set_option maxHeartbeats 4000000 in
set_option maxRecDepth 100000 in
theorem sf_X3_ownDayIn (l : Launch) (g : sv_G) (A : Nat → Prop) (ty : Nat → Nat) (σ : Nat → Nat → Int) (hok : sv_ok ty σ) (hTA : ∀ q, ty q ≠ 0 → A q) (hI : sv_inv sp_1 ty σ) (a : Nat) (k_a : ty a = 8) (y : Int) (h_y : 1 ≤ y ∧ y ≤ 2000) (d : Int) (h_d : 0 ≤ d ∧ d ≤ 400) : sv_M l yX3_ownDayIn cX3_ownDayIn 3 (some .int) { frames := 3, cells := 0, slots := 0, locals := 66 } g A ty σ [sv_r a, sv_i y, sv_i d] (fun r σ' => σ = σ' ∧ ∃ rv : Int, r = [sv_i rv] ∧ ((-2147483648) ≤ rv ∧ rv ≤ 2147483647)) := by
  refine sv_enter (by decide) (Nat.le_of_ble_eq_true rfl) ?_
  intro p e s m args below meth c C hr
  have C : sv_C g A RX3 cX3_ownDayIn 3 p s m args meth c := C
  have hr : meth.sig.returnType = (some .int) := hr
  have hF : sv_ofx [] [] ty σ σ := sv_ofx.rf
  refine sv_same (st2 := []) (lv2 := [(0, sv_r a), (1, sv_i y), (2, sv_i d)]) rfl rfl ?_
  refine sv_go C.1 C.2.1 [(.iload_n 1, 1), (.aload_n 0, 1)] (pc' := 2) (by decide +kernel) rfl (lv' := [(0, sv_r a), (1, sv_i y), (2, sv_i d)]) (st' := [sv_r a, sv_i y]) rfl ?_
  obtain ⟨v1, ev1, hv1⟩ := sv_rdk hok (a := a) (k := 10) (ci := 2) (r := (RX3, TX3, 12)) (by rw [k_a]; rfl) rfl (by decide) rfl
  refine sv_gf C (index := 22) (ci := 2) (k := 10) (r := (RX3, TX3, 12)) (v := sv_i v1) (by decide +kernel) (by rw [k_a]; rfl) rfl (by decide) fl_X3_22 (congrArg sv_i ev1) ?_
  refine sv_icmp C.1 C.2.1 (cnd := .lt) (off := 11) (tgt := 16) (by decide +kernel) (by decide) ⟨by omega, by omega⟩ ⟨by omega, by omega⟩ (fun (h2 : y < v1) => ?_) (fun (h2 : ¬ (y < v1)) => ?_)
  · refine sv_go C.1 C.2.1 [(.bipush (-10), 2)] (pc' := 18) (by decide +kernel) rfl (lv' := [(0, sv_r a), (1, sv_i y), (2, sv_i d)]) (st' := [sv_i ((-10))]) rfl ?_
    exact sv_iret C hr (by decide +kernel) hok (⟨rfl, ⟨_, rfl, ⟨by omega, by omega⟩⟩⟩)
  · refine sv_go C.1 C.2.1 [(.iload_n 1, 1), (.aload_n 0, 1)] (pc' := 10) (by decide +kernel) rfl (lv' := [(0, sv_r a), (1, sv_i y), (2, sv_i d)]) (st' := [sv_r a, sv_i y]) rfl ?_
    obtain ⟨v3, ev3, hv3⟩ := sv_rdk hok (a := a) (k := 11) (ci := 2) (r := (RX3, TX3, 12)) (by rw [k_a]; rfl) rfl (by decide) rfl
    refine sv_gf C (index := 25) (ci := 2) (k := 11) (r := (RX3, TX3, 12)) (v := sv_i v3) (by decide +kernel) (by rw [k_a]; rfl) rfl (by decide) fl_X3_25 (congrArg sv_i ev3) ?_
    refine sv_icmp C.1 C.2.1 (cnd := .le) (off := 6) (tgt := 19) (by decide +kernel) (by decide) ⟨by omega, by omega⟩ ⟨by omega, by omega⟩ (fun (h4 : y ≤ v3) => ?_) (fun (h4 : ¬ (y ≤ v3)) => ?_)
    · refine sv_go C.1 C.2.1 [(.aload_n 0, 1)] (pc' := 20) (by decide +kernel) rfl (lv' := [(0, sv_r a), (1, sv_i y), (2, sv_i d)]) (st' := [sv_r a]) rfl ?_
      obtain ⟨v5, ev5, hv5⟩ := sv_rdk hok (a := a) (k := 2) (ci := 2) (r := (RX3, TX3, 12)) (by rw [k_a]; rfl) rfl (by decide) rfl
      refine sv_gf C (index := 9) (ci := 2) (k := 2) (r := (RX3, TX3, 12)) (v := sv_i v5) (by decide +kernel) (by rw [k_a]; rfl) rfl (by decide) fl_X3_9 (congrArg sv_i ev5) ?_
      rcases (show v5 = 0 ∨ v5 = 1 ∨ (v5 ≠ 0 ∧ v5 ≠ 1) by omega) with h6 | h6 | h6
      · refine sv_lsI C.1 C.2.1 (dflt := 56) (ps := #[(0, 25), (1, 31)]) (len := 25) (off := 25) (tgt := 48) (by decide +kernel) (by decide) 0 h6 (by decide) (by decide) (by decide) ?_
        refine sv_go C.1 C.2.1 [(.aload_n 0, 1), (.iload_n 1, 1)] (pc' := 50) (by decide +kernel) rfl (lv' := [(0, sv_r a), (1, sv_i y), (2, sv_i d)]) (st' := [sv_i y, sv_r a]) rfl ?_
        refine sv_cv C (index := 49) (k := 1) (rest := []) (ci := 2) (r := (RX3, TX3, 12)) (by decide +kernel) (sf_X3_fixedDay l g A ty σ hok hTA hI a k_a (y) ⟨by omega, by omega⟩) ⟨co_X3_fixedDay, in_X3, ⟨by decide, by decide, by decide +kernel⟩, Nat.le_of_ble_eq_true rfl, Nat.le_of_ble_eq_true rfl⟩ ml_X3_49 im_X3_fixedDay se_X3_fixedDay (by rw [k_a]; rfl) rfl rfl rfl (Nat.le_of_ble_eq_true rfl) ⟨Nat.zero_le _, Nat.zero_le _⟩ (fun r8 σ9 hpo7 hok10 => ?_)
        obtain ⟨rfl, ⟨vu11, rfl, hvu11⟩⟩ := hpo7
        refine sv_same (st2 := [sv_i vu11]) (lv2 := [(0, sv_r a), (1, sv_i y), (2, sv_i d)]) rfl rfl ?_
        exact sv_iret C hr (by decide +kernel) hok10 (⟨rfl, ⟨_, rfl, ⟨by omega, by omega⟩⟩⟩)
      · refine sv_lsI C.1 C.2.1 (dflt := 56) (ps := #[(0, 25), (1, 31)]) (len := 25) (off := 31) (tgt := 54) (by decide +kernel) (by decide) 1 h6 (by decide) (by decide) (by decide) ?_
        refine sv_go C.1 C.2.1 [(.iload_n 1, 1), (.iload_n 2, 1), (.aload_n 0, 1)] (pc' := 57) (by decide +kernel) rfl (lv' := [(0, sv_r a), (1, sv_i y), (2, sv_i d)]) (st' := [sv_r a, sv_i d, sv_i y]) rfl ?_
        obtain ⟨v12, ev12, hv12⟩ := sv_rdk hok (a := a) (k := 5) (ci := 2) (r := (RX3, TX3, 12)) (by rw [k_a]; rfl) rfl (by decide) rfl
        refine sv_gf C (index := 52) (ci := 2) (k := 5) (r := (RX3, TX3, 12)) (v := sv_i v12) (by decide +kernel) (by rw [k_a]; rfl) rfl (by decide) fl_X3_52 (congrArg sv_i ev12) ?_
        refine sv_go C.1 C.2.1 [(.iadd, 1)] (pc' := 61) (by decide +kernel) rfl (lv' := [(0, sv_r a), (1, sv_i y), (2, sv_i d)]) (st' := [sv_i (d + v12), sv_i y]) rfl ?_
        obtain ⟨w13, hw13, ew13⟩ := sv_wr (d + v12)
        refine sv_sameD (st2 := [sv_i w13, sv_i y]) (lv2 := [(0, sv_r a), (1, sv_i y), (2, sv_i d)]) (by simp only [List.map_cons, List.map_nil, sv_den_i, ew13]) rfl ?_
        refine sv_cs C (index := 55) (k := 2) (rest := []) (by decide +kernel) (ct_X2_isDay l g A ty σ hok (y) ⟨by omega, by omega⟩ (w13) ⟨by omega, by omega⟩) ⟨co_X2_isDay, in_X2, ⟨by decide, by decide, by decide +kernel⟩, Nat.le_of_ble_eq_true rfl, Nat.le_of_ble_eq_true rfl⟩ ml_X3_55 st_X2_isDay rfl rfl (Nat.le_of_ble_eq_true rfl) ⟨Nat.zero_le _, Nat.zero_le _⟩ (fun r15 σ16 hpo14 hok17 => ?_)
        obtain ⟨rfl, ⟨h18, rfl⟩ | ⟨h18, rfl⟩⟩ := hpo14
        · have hn19 := dy_lp_in y
          refine sv_same (st2 := [sv_i 1]) (lv2 := [(0, sv_r a), (1, sv_i y), (2, sv_i d)]) rfl rfl ?_
          refine sv_if_f C.1 C.2.1 (cnd := .eq) (off := 12) (tgt := 76) (by decide +kernel) (by decide) ⟨by omega, by omega⟩ (show ¬ (1 = 0) by omega) ?_
          refine sv_go C.1 C.2.1 [(.iload_n 2, 1), (.aload_n 0, 1)] (pc' := 69) (by decide +kernel) rfl (lv' := [(0, sv_r a), (1, sv_i y), (2, sv_i d)]) (st' := [sv_r a, sv_i d]) rfl ?_
          refine sv_gf C (index := 52) (ci := 2) (k := 5) (r := (RX3, TX3, 12)) (v := sv_i v12) (by decide +kernel) (by rw [k_a]; rfl) rfl (by decide) fl_X3_52 (congrArg sv_i ev12) ?_
          refine sv_go C.1 C.2.1 [(.iadd, 1)] (pc' := 73) (by decide +kernel) rfl (lv' := [(0, sv_r a), (1, sv_i y), (2, sv_i d)]) (st' := [sv_i (d + v12)]) rfl ?_
          refine sv_goto C.1 C.2.1 (off := 5) (tgt := 78) (by decide +kernel) (by decide) ?_
          obtain ⟨w20, hw20, ew20⟩ := sv_wr (d + v12)
          refine sv_sameD (st2 := [sv_i w20]) (lv2 := [(0, sv_r a), (1, sv_i y), (2, sv_i d)]) (by simp only [List.map_cons, List.map_nil, sv_den_i, ew20]) rfl ?_
          exact sv_iret C hr (by decide +kernel) hok17 (⟨rfl, ⟨_, rfl, ⟨by omega, by omega⟩⟩⟩)
        · have hn19 := dy_lp_in y
          refine sv_same (st2 := [sv_i 0]) (lv2 := [(0, sv_r a), (1, sv_i y), (2, sv_i d)]) rfl rfl ?_
          refine sv_if_t C.1 C.2.1 (cnd := .eq) (off := 12) (tgt := 76) (by decide +kernel) (by decide) ⟨by omega, by omega⟩ (show 0 = 0 by omega) ?_
          refine sv_go C.1 C.2.1 [(.bipush (-10), 2)] (pc' := 78) (by decide +kernel) rfl (lv' := [(0, sv_r a), (1, sv_i y), (2, sv_i d)]) (st' := [sv_i ((-10))]) rfl ?_
          exact sv_iret C hr (by decide +kernel) hok17 (⟨rfl, ⟨_, rfl, ⟨by omega, by omega⟩⟩⟩)
      · refine sv_lsO C.1 C.2.1 (dflt := 56) (ps := #[(0, 25), (1, 31)]) (len := 25) (tgt := 79) (by decide +kernel) (by decide) ⟨by omega, by omega⟩ (by simp only [List.forall_mem_cons]; (repeat' constructor) <;> first | omega | (intro q hq; cases hq)) (by decide) ?_
        refine sv_go C.1 C.2.1 [(.iload_n 1, 1), (.aload_n 0, 1)] (pc' := 81) (by decide +kernel) rfl (lv' := [(0, sv_r a), (1, sv_i y), (2, sv_i d)]) (st' := [sv_r a, sv_i y]) rfl ?_
        obtain ⟨v21, ev21, hv21⟩ := sv_rdk hok (a := a) (k := 3) (ci := 2) (r := (RX3, TX3, 12)) (by rw [k_a]; rfl) rfl (by decide) rfl
        refine sv_gf C (index := 61) (ci := 2) (k := 3) (r := (RX3, TX3, 12)) (v := sv_i v21) (by decide +kernel) (by rw [k_a]; rfl) rfl (by decide) fl_X3_61 (congrArg sv_i ev21) ?_
        refine sv_go C.1 C.2.1 [(.aload_n 0, 1)] (pc' := 85) (by decide +kernel) rfl (lv' := [(0, sv_r a), (1, sv_i y), (2, sv_i d)]) (st' := [sv_r a, sv_i v21, sv_i y]) rfl ?_
        obtain ⟨v22, ev22, hv22⟩ := sv_rdk hok (a := a) (k := 6) (ci := 2) (r := (RX3, TX3, 12)) (by rw [k_a]; rfl) rfl (by decide) rfl
        refine sv_gf C (index := 64) (ci := 2) (k := 6) (r := (RX3, TX3, 12)) (v := sv_i v22) (by decide +kernel) (by rw [k_a]; rfl) rfl (by decide) fl_X3_64 (congrArg sv_i ev22) ?_
        refine sv_cs C (index := 67) (k := 3) (rest := []) (by decide +kernel) (sf_X2_sundayOf l g A ty σ hok hTA hI (y) ⟨by omega, by omega⟩ (v21) ⟨by omega, by omega⟩ (v22) ⟨by omega, by omega⟩) ⟨co_X2_sundayOf, in_X2, ⟨by decide, by decide, by decide +kernel⟩, Nat.le_of_ble_eq_true rfl, Nat.le_of_ble_eq_true rfl⟩ ml_X3_67 st_X2_sundayOf rfl rfl (Nat.le_of_ble_eq_true rfl) ⟨Nat.zero_le _, Nat.zero_le _⟩ (fun r24 σ25 hpo23 hok26 => ?_)
        obtain ⟨rfl, ⟨vu27, rfl, hvu27⟩⟩ := hpo23
        refine sv_same (st2 := [sv_i vu27]) (lv2 := [(0, sv_r a), (1, sv_i y), (2, sv_i d)]) rfl rfl ?_
        exact sv_iret C hr (by decide +kernel) hok26 (⟨rfl, ⟨_, rfl, ⟨by omega, by omega⟩⟩⟩)
    · refine sv_go C.1 C.2.1 [(.bipush (-10), 2)] (pc' := 18) (by decide +kernel) rfl (lv' := [(0, sv_r a), (1, sv_i y), (2, sv_i d)]) (st' := [sv_i ((-10))]) rfl ?_
      exact sv_iret C hr (by decide +kernel) hok (⟨rfl, ⟨_, rfl, ⟨by omega, by omega⟩⟩⟩)

theorem fl_X1_32 : Cond.fieldLink RX1 32 "SaintsRoad$Calendar" "size" "I" ∈ lw_good := sv_mem 248 (by decide +kernel) rfl
theorem fl_X1_35 : Cond.fieldLink RX1 35 "SaintsRoad$Calendar" "yieldRank" "I" ∈ lw_good := sv_mem 252 (by decide +kernel) rfl
theorem fl_X1_38 : Cond.fieldLink RX1 38 "SaintsRoad$Calendar" "yieldTimes" "I" ∈ lw_good := sv_mem 255 (by decide +kernel) rfl
theorem fl_X1_22 : Cond.fieldLink RX1 22 "SaintsRoad$Calendar" "lent" "I" ∈ lw_good := sv_mem 258 (by decide +kernel) rfl
theorem fl_X1_17 : Cond.fieldLink RX1 17 "SaintsRoad$Calendar" "waxByRank" "[I" ∈ lw_good := sv_mem 246 (by decide +kernel) rfl
theorem ml_X1_26 : Cond.methodLink RX1 26 yJ7_fill_53178 ∈ lw_good := sv_mem 239 (by decide +kernel) rfl
theorem co_J7_fill_53178 : Cond.code yJ7_fill_53178 cJ7_fill_53178 4 none ∈ lw_good := sv_mem 241 (by decide +kernel) rfl
theorem in_J7 : Cond.initialized RJ7 ∈ lw_good := sv_mem 78 (by decide +kernel) rfl
theorem st_J7_fill_53178 : Cond.static yJ7_fill_53178 ∈ lw_good := sv_mem 240 (by decide +kernel) rfl
set_option maxHeartbeats 4000000 in
set_option maxRecDepth 100000 in
theorem sf_X1_clear (l : Launch) (g : sv_G) (A : Nat → Prop) (ty : Nat → Nat) (σ : Nat → Nat → Int) (hok : sv_ok ty σ) (hTA : ∀ q, ty q ≠ 0 → A q) (hI : sv_inv sp_1 ty σ) (a : Nat) (k_a : ty a = 7) : sv_M l yX1_clear cX1_clear 1 none { frames := 1, cells := 0, slots := 0, locals := 23 } g A ty σ [sv_r a] (fun r σ' => (r = []) ∧ sv_inv sp_1 ty σ' ∧ sv_ofx [(7, 2), (7, 3), (7, 4), (7, 5)] [23] ty σ σ') := by
  refine sv_enter (by decide) (Nat.le_of_ble_eq_true rfl) ?_
  intro p e s m args below meth c C hr
  have C : sv_C g A RX1 cX1_clear 1 p s m args meth c := C
  have hr : meth.sig.returnType = none := hr
  have hF : sv_ofx [(7, 2), (7, 3), (7, 4), (7, 5)] [23] ty σ σ := sv_ofx.rf
  refine sv_same (st2 := []) (lv2 := [(0, sv_r a)]) rfl rfl ?_
  refine sv_go C.1 C.2.1 [(.aload_n 0, 1), (.iconst 0, 1)] (pc' := 2) (by decide +kernel) rfl (lv' := [(0, sv_r a)]) (st' := [sv_i 0, sv_r a]) rfl ?_
  refine sv_pf C (index := 32) (ci := 1) (k := 2) (r := (RX1, TX1, 6)) (z := 0) (by decide +kernel) (by rw [k_a]; rfl) rfl (by decide) rfl fl_X1_32 rfl (Or.inl rfl) ⟨by omega, by omega⟩ (hTA _ (by rw [k_a]; decide)) hok (fun hok1 => ?_)
  have hI3 := hI.up (a := a) (k := 2) (z := 0) (by rw [k_a]; exact ⟨by omega, by omega⟩)
  have hF4 := hF.up (a := a) (k := 2) (z := 0) (Or.inr (by rw [k_a]; decide))
  generalize eσ2 : sv_up σ a 2 0 = σ2 at hok1 hI3 hF4 ⊢
  have t5 : σ2 a 2 = 0 := by rw [← eσ2]; exact sv_up_s _ _ _ _
  refine sv_go C.1 C.2.1 [(.aload_n 0, 1), (.iconst 0, 1)] (pc' := 7) (by decide +kernel) rfl (lv' := [(0, sv_r a)]) (st' := [sv_i 0, sv_r a]) rfl ?_
  refine sv_pf C (index := 35) (ci := 1) (k := 3) (r := (RX1, TX1, 6)) (z := 0) (by decide +kernel) (by rw [k_a]; rfl) rfl (by decide) rfl fl_X1_35 rfl (Or.inl rfl) ⟨by omega, by omega⟩ (hTA _ (by rw [k_a]; decide)) hok1 (fun hok6 => ?_)
  have hI8 := hI3.up (a := a) (k := 3) (z := 0) (by rw [k_a]; exact trivial)
  have hF9 := hF4.up (a := a) (k := 3) (z := 0) (Or.inr (by rw [k_a]; decide))
  generalize eσ7 : sv_up σ2 a 3 0 = σ7 at hok6 hI8 hF9 ⊢
  have t10 : σ7 a 2 = 0 := by rw [← eσ7, sv_up_k (by decide)]; exact t5
  have t11 : σ7 a 3 = 0 := by rw [← eσ7]; exact sv_up_s _ _ _ _
  refine sv_go C.1 C.2.1 [(.aload_n 0, 1), (.iconst 0, 1)] (pc' := 12) (by decide +kernel) rfl (lv' := [(0, sv_r a)]) (st' := [sv_i 0, sv_r a]) rfl ?_
  refine sv_pf C (index := 38) (ci := 1) (k := 4) (r := (RX1, TX1, 6)) (z := 0) (by decide +kernel) (by rw [k_a]; rfl) rfl (by decide) rfl fl_X1_38 rfl (Or.inl rfl) ⟨by omega, by omega⟩ (hTA _ (by rw [k_a]; decide)) hok6 (fun hok12 => ?_)
  have hI14 := hI8.up (a := a) (k := 4) (z := 0) (by rw [k_a]; exact trivial)
  have hF15 := hF9.up (a := a) (k := 4) (z := 0) (Or.inr (by rw [k_a]; decide))
  generalize eσ13 : sv_up σ7 a 4 0 = σ13 at hok12 hI14 hF15 ⊢
  have t16 : σ13 a 2 = 0 := by rw [← eσ13, sv_up_k (by decide)]; exact t10
  have t17 : σ13 a 3 = 0 := by rw [← eσ13, sv_up_k (by decide)]; exact t11
  have t18 : σ13 a 4 = 0 := by rw [← eσ13]; exact sv_up_s _ _ _ _
  refine sv_go C.1 C.2.1 [(.aload_n 0, 1), (.iconst (-1), 1)] (pc' := 17) (by decide +kernel) rfl (lv' := [(0, sv_r a)]) (st' := [sv_i ((-1)), sv_r a]) rfl ?_
  refine sv_pf C (index := 22) (ci := 1) (k := 5) (r := (RX1, TX1, 6)) (z := (-1)) (by decide +kernel) (by rw [k_a]; rfl) rfl (by decide) rfl fl_X1_22 rfl (Or.inl rfl) ⟨by omega, by omega⟩ (hTA _ (by rw [k_a]; decide)) hok12 (fun hok19 => ?_)
  have hI21 := hI14.up (a := a) (k := 5) (z := (-1)) (by rw [k_a]; exact trivial)
  have hF22 := hF15.up (a := a) (k := 5) (z := (-1)) (Or.inr (by rw [k_a]; decide))
  generalize eσ20 : sv_up σ13 a 5 ((-1)) = σ20 at hok19 hI21 hF22 ⊢
  have t23 : σ20 a 2 = 0 := by rw [← eσ20, sv_up_k (by decide)]; exact t16
  have t24 : σ20 a 3 = 0 := by rw [← eσ20, sv_up_k (by decide)]; exact t17
  have t25 : σ20 a 4 = 0 := by rw [← eσ20, sv_up_k (by decide)]; exact t18
  have t26 : σ20 a 5 = (-1) := by rw [← eσ20]; exact sv_up_s _ _ _ _
  refine sv_go C.1 C.2.1 [(.aload_n 0, 1)] (pc' := 21) (by decide +kernel) rfl (lv' := [(0, sv_r a)]) (st' := [sv_r a]) rfl ?_
  obtain ⟨v27, ev27, kv27⟩ := hI21.ref (k := 1) k_a rfl
  refine sv_gf C (index := 17) (ci := 1) (k := 1) (r := (RX1, TX1, 6)) (v := sv_r v27) (by decide +kernel) (by rw [k_a]; rfl) rfl (by decide) fl_X1_17 (congrArg sv_a ev27) ?_
  refine sv_go C.1 C.2.1 [(.iconst (-1), 1)] (pc' := 25) (by decide +kernel) rfl (lv' := [(0, sv_r a)]) (st' := [sv_i ((-1)), sv_r v27]) rfl ?_
  refine sv_cs C (index := 26) (k := 2) (rest := []) (by decide +kernel) (ct_fill l g A ty σ20 hok19 v27 9 (by rw [kv27]; rfl) (by decide) (hTA _ (by rw [kv27]; decide)) ((-1)) ⟨by omega, by omega⟩) ⟨co_J7_fill_53178, in_J7, ⟨by decide, by decide, by decide +kernel⟩, Nat.le_of_ble_eq_true rfl, Nat.le_of_ble_eq_true rfl⟩ ml_X1_26 st_J7_fill_53178 rfl rfl (Nat.le_of_ble_eq_true rfl) ⟨Nat.zero_le _, Nat.zero_le _⟩ (fun r29 σ30 hpo28 hok31 => ?_)
  obtain ⟨rfl, h1u32, h2u32, h3u32⟩ := hpo28
  have hIu32 := hI21.fill (b := v27) (n := 9) (v := (-1)) (fun k => by rw [kv27]; exact trivial) h1u32 h2u32 h3u32
  have hGu32 := hF22.fill (b := v27) (by rw [kv27]; decide) h1u32
  have t33 : σ30 a 2 = 0 := (h1u32 a (sv_ne k_a kv27 (by decide)) 2).trans t23
  have t34 : σ30 a 3 = 0 := (h1u32 a (sv_ne k_a kv27 (by decide)) 3).trans t24
  have t35 : σ30 a 4 = 0 := (h1u32 a (sv_ne k_a kv27 (by decide)) 4).trans t25
  have t36 : σ30 a 5 = (-1) := (h1u32 a (sv_ne k_a kv27 (by decide)) 5).trans t26
  have t37 : σ30 a 1 = (v27 : Int) + 1 := (h1u32 a (sv_ne k_a kv27 (by decide)) 1).trans ev27
  refine sv_same (st2 := []) (lv2 := [(0, sv_r a)]) rfl rfl ?_
  exact sv_vret C hr (by decide +kernel) hok31 (⟨rfl, hIu32, hGu32⟩)

theorem fl_X1_11 : Cond.fieldLink RX1 11 "SaintsRoad$Calendar" "feasts" "[LSaintsRoad$Feast;" ∈ lw_good := sv_mem 242 (by decide +kernel) rfl
theorem fl_X1_41 : Cond.fieldLink RX1 41 "SaintsRoad$Feast" "name" "J" ∈ lw_good := sv_mem 186 (by decide +kernel) rfl
set_option maxHeartbeats 4000000 in
set_option maxRecDepth 100000 in
theorem sf_X1_hasName (l : Launch) (g : sv_G) (A : Nat → Prop) (ty : Nat → Nat) (σ : Nat → Nat → Int) (hok : sv_ok ty σ) (hTA : ∀ q, ty q ≠ 0 → A q) (hI : sv_inv sp_1 ty σ) (a : Nat) (k_a : ty a = 7) (v : Int) (h_v : sv_in64 v) : sv_M l yX1_hasName cX1_hasName 4 (some .boolean) { frames := 0, cells := 0, slots := 0, locals := 0 } g A ty σ [sv_r a, sv_l v] (fun r σ' => σ = σ' ∧ ∃ rv : Int, r = [sv_i rv] ∧ (0 ≤ rv ∧ rv ≤ 1)) := by
  refine sv_enter (by decide) (Nat.le_of_ble_eq_true rfl) ?_
  intro p e s m args below meth c C hr
  have C : sv_C g A RX1 cX1_hasName 4 p s m args meth c := C
  have hr : meth.sig.returnType = (some .boolean) := hr
  have hF : sv_ofx [] [] ty σ σ := sv_ofx.rf
  refine sv_same (st2 := []) (lv2 := [(0, sv_r a), (1, sv_l v)]) rfl rfl ?_
  refine sv_go C.1 C.2.1 [(.iconst 0, 1), (.istore_n 3, 1)] (pc' := 2) (by decide +kernel) rfl (lv' := [(0, sv_r a), (1, sv_l v), (3, sv_i 0)]) (st' := []) rfl ?_
  have L2 : ∀ (n : Nat) (Xg1_l3 : Int), (0 ≤ Xg1_l3 ∧ Xg1_l3 ≤ 60) → (60 - Xg1_l3) < (n : Int) → sv_E p l e { frames := 0, cells := 0, slots := 0, locals := 0 } s m args below meth c 4 g A ty (fun r σ' => σ = σ' ∧ ∃ rv : Int, r = [sv_i rv] ∧ (0 ≤ rv ∧ rv ≤ 1)) σ 2 [(0, sv_r a), (1, sv_l v), (3, sv_i Xg1_l3)] [] := by
    intro n
    induction n with
    | zero => intro Xg1_l3 hXg1_l3 hmu; exact absurd hmu (by omega)
    | succ n ih3 =>
      intro Xg1_l3 hXg1_l3 hmu
      refine sv_go C.1 C.2.1 [(.iload_n 3, 1), (.aload_n 0, 1)] (pc' := 4) (by decide +kernel) rfl (lv' := [(0, sv_r a), (1, sv_l v), (3, sv_i Xg1_l3)]) (st' := [sv_r a, sv_i Xg1_l3]) rfl ?_
      obtain ⟨v4, ev4, hv4⟩ := sv_rdn hI (k := 2) k_a rfl
      refine sv_gf C (index := 32) (ci := 1) (k := 2) (r := (RX1, TX1, 6)) (v := sv_i v4) (by decide +kernel) (by rw [k_a]; rfl) rfl (by decide) fl_X1_32 (congrArg sv_i ev4) ?_
      refine sv_icmp C.1 C.2.1 (cnd := .ge) (off := 25) (tgt := 32) (by decide +kernel) (by decide) ⟨by omega, by omega⟩ ⟨by omega, by omega⟩ (fun (h5 : v4 ≤ Xg1_l3) => ?_) (fun (h5 : ¬ (v4 ≤ Xg1_l3)) => ?_)
      · refine sv_go C.1 C.2.1 [(.iconst 0, 1)] (pc' := 33) (by decide +kernel) rfl (lv' := [(0, sv_r a), (1, sv_l v), (3, sv_i Xg1_l3)]) (st' := [sv_i 0]) rfl ?_
        exact sv_zret C hr (by omega) (by decide +kernel) hok (⟨rfl, ⟨_, rfl, ⟨by omega, by omega⟩⟩⟩)
      · refine sv_go C.1 C.2.1 [(.aload_n 0, 1)] (pc' := 11) (by decide +kernel) rfl (lv' := [(0, sv_r a), (1, sv_l v), (3, sv_i Xg1_l3)]) (st' := [sv_r a]) rfl ?_
        obtain ⟨v6, ev6, kv6⟩ := hI.ref (k := 0) k_a rfl
        refine sv_gf C (index := 11) (ci := 1) (k := 0) (r := (RX1, TX1, 6)) (v := sv_r v6) (by decide +kernel) (by rw [k_a]; rfl) rfl (by decide) fl_X1_11 (congrArg sv_a ev6) ?_
        refine sv_go C.1 C.2.1 [(.iload_n 3, 1)] (pc' := 15) (by decide +kernel) rfl (lv' := [(0, sv_r a), (1, sv_l v), (3, sv_i Xg1_l3)]) (st' := [sv_i Xg1_l3, sv_r v6]) rfl ?_
        refine sv_aa C (N := "SaintsRoad$Feast") (by decide) (n := 60) (by decide +kernel) (by rw [kv6]; rfl) (by decide) (by omega) (by omega) ?_
        obtain ⟨v7, ev7, kv7⟩ := hI.ref (k := (Xg1_l3 : Int).toNat) kv6 (by first | rfl | (show (if _ then _ else _) = _; rw [if_pos (by omega)]))
        rw [ev7]
        obtain ⟨v8, ev8, hv8⟩ := sv_rdl hok (a := v7) (k := 0) (ci := 2) (r := (RX3, TX3, 12)) (by rw [kv7]; rfl) rfl (by decide) rfl
        refine sv_gf C (index := 41) (ci := 2) (k := 0) (r := (RX3, TX3, 12)) (v := sv_l v8) (by decide +kernel) (by rw [kv7]; rfl) rfl (by decide) fl_X1_41 (congrArg sv_l ev8) ?_
        refine sv_go C.1 C.2.1 [(.lload_n 1, 1)] (pc' := 20) (by decide +kernel) rfl (lv' := [(0, sv_r a), (1, sv_l v), (3, sv_i Xg1_l3)]) (st' := [sv_l v, sv_l v8]) rfl ?_
        refine sv_lcmp C.1 C.2.1 (by decide +kernel) ⟨by omega, by omega⟩ ⟨by omega, by omega⟩ (fun z10 (h9 : sv_sg z10 v8 v) => ?_)
        obtain ⟨h9z, h9l, h9e, h9g⟩ := h9
        refine sv_if C.1 C.2.1 (cnd := .ne) (off := 5) (tgt := 26) (by decide +kernel) (by decide) ⟨by omega, by omega⟩ (fun (h11 : z10 ≠ 0) => ?_) (fun (h11 : ¬ (z10 ≠ 0)) => ?_)
        · refine sv_go C.1 C.2.1 [(.iinc 3 1, 3)] (pc' := 29) (by decide +kernel) rfl (lv' := [(0, sv_r a), (1, sv_l v), (3, sv_i (Xg1_l3 + 1))]) (st' := []) rfl ?_
          refine sv_goto C.1 C.2.1 (off := (-27)) (tgt := 2) (by decide +kernel) (by decide) ?_
          exact ih3 (Xg1_l3 + 1) ⟨by omega, by omega⟩ (by omega)
        · refine sv_go C.1 C.2.1 [(.iconst 1, 1)] (pc' := 25) (by decide +kernel) rfl (lv' := [(0, sv_r a), (1, sv_l v), (3, sv_i Xg1_l3)]) (st' := [sv_i 1]) rfl ?_
          exact sv_zret C hr (by omega) (by decide +kernel) hok (⟨rfl, ⟨_, rfl, ⟨by omega, by omega⟩⟩⟩)
  exact L2 (((60 - 0 : Int)).toNat + 1) 0 ⟨by omega, by omega⟩ (by omega)

theorem mn_X1_45 : Cond.methodLinkNest RX1 45 yX9_isRank "SaintsRoad" ∈ sv_nest := sv_memN 793 (by decide +kernel) rfl
theorem co_X9_isRank : Cond.code yX9_isRank cX9_isRank 1 (some .boolean) ∈ lw_good := sv_mem 795 (by decide +kernel) rfl
theorem in_X9 : Cond.initialized RX9 ∈ lw_good := sv_mem 72 (by decide +kernel) rfl
theorem st_X9_isRank : Cond.static yX9_isRank ∈ lw_good := sv_mem 794 (by decide +kernel) rfl
theorem ml_X1_49 : Cond.methodLink RX1 49 yJ9_max_7cf53 ∈ lw_good := sv_mem 796 (by decide +kernel) rfl
set_option maxHeartbeats 4000000 in
set_option maxRecDepth 100000 in
theorem sf_X1_waxOfRank (l : Launch) (g : sv_G) (A : Nat → Prop) (ty : Nat → Nat) (σ : Nat → Nat → Int) (hok : sv_ok ty σ) (hTA : ∀ q, ty q ≠ 0 → A q) (hI : sv_inv sp_1 ty σ) (a : Nat) (k_a : ty a = 7) (v : Int) (h_v : (-2147483648) ≤ v ∧ v ≤ 2147483647) : sv_M l yX1_waxOfRank cX1_waxOfRank 2 (some .int) { frames := 1, cells := 0, slots := 0, locals := 21 } g A ty σ [sv_r a, sv_i v] (fun r σ' => σ = σ' ∧ ∃ rv : Int, r = [sv_i rv] ∧ (0 ≤ rv ∧ rv ≤ 2147483647)) := by
  refine sv_enter (by decide) (Nat.le_of_ble_eq_true rfl) ?_
  intro p e s m args below meth c C hr
  have C : sv_C g A RX1 cX1_waxOfRank 2 p s m args meth c := C
  have hr : meth.sig.returnType = (some .int) := hr
  have hF : sv_ofx [] [] ty σ σ := sv_ofx.rf
  refine sv_same (st2 := []) (lv2 := [(0, sv_r a), (1, sv_i v)]) rfl rfl ?_
  refine sv_go C.1 C.2.1 [(.iload_n 1, 1)] (pc' := 1) (by decide +kernel) rfl (lv' := [(0, sv_r a), (1, sv_i v)]) (st' := [sv_i v]) rfl ?_
  refine sv_csN C (index := 45) (k := 1) (rest := []) (by decide +kernel) (sf_X9_isRank l g A ty σ hok hTA hI (v) ⟨by omega, by omega⟩) ⟨co_X9_isRank, in_X9, ⟨by decide, by decide, by decide +kernel⟩, Nat.le_of_ble_eq_true rfl, Nat.le_of_ble_eq_true rfl⟩ mn_X1_45 st_X9_isRank rfl rfl (Nat.le_of_ble_eq_true rfl) ⟨Nat.zero_le _, Nat.zero_le _⟩ (fun r2 σ3 hpo1 hok4 => ?_)
  obtain ⟨rfl, ⟨vu5, rfl, hvu5, ivu5_0⟩⟩ := hpo1
  refine sv_same (st2 := [sv_i vu5]) (lv2 := [(0, sv_r a), (1, sv_i v)]) rfl rfl ?_
  refine sv_if C.1 C.2.1 (cnd := .eq) (off := 16) (tgt := 20) (by decide +kernel) (by decide) ⟨by omega, by omega⟩ (fun (h6 : vu5 = 0) => ?_) (fun (h6 : ¬ (vu5 = 0)) => ?_)
  · refine sv_go C.1 C.2.1 [(.iconst 0, 1)] (pc' := 21) (by decide +kernel) rfl (lv' := [(0, sv_r a), (1, sv_i v)]) (st' := [sv_i 0]) rfl ?_
    exact sv_iret C hr (by decide +kernel) hok4 (⟨rfl, ⟨_, rfl, ⟨by omega, by omega⟩⟩⟩)
  · have hp7 := ivu5_0 (by omega) (by omega)
    refine sv_go C.1 C.2.1 [(.iconst 0, 1), (.aload_n 0, 1)] (pc' := 9) (by decide +kernel) rfl (lv' := [(0, sv_r a), (1, sv_i v)]) (st' := [sv_r a, sv_i 0]) rfl ?_
    obtain ⟨v8, ev8, kv8⟩ := hI.ref (k := 1) k_a rfl
    refine sv_gf C (index := 17) (ci := 1) (k := 1) (r := (RX1, TX1, 6)) (v := sv_r v8) (by decide +kernel) (by rw [k_a]; rfl) rfl (by decide) fl_X1_17 (congrArg sv_a ev8) ?_
    refine sv_go C.1 C.2.1 [(.iload_n 1, 1)] (pc' := 13) (by decide +kernel) rfl (lv' := [(0, sv_r a), (1, sv_i v)]) (st' := [sv_i v, sv_r v8, sv_i 0]) rfl ?_
    refine sv_ia C (n := 9) (by decide +kernel) (by rw [kv8]; rfl) (by decide) (by omega) (by omega) ?_
    obtain ⟨v9, ev9, hv9⟩ := sv_rde hok4 (a := v8) (k := (v : Int).toNat) (n := 9) (by rw [kv8]; rfl) (by omega)
    rw [ev9]
    refine sv_max C (index := 49) (by decide +kernel) ml_X1_49 ⟨by omega, by omega⟩ ⟨by omega, by omega⟩ (Nat.le_of_ble_eq_true rfl) (Nat.le_of_ble_eq_true rfl) ⟨Nat.zero_le _, Nat.zero_le _⟩ ?_
    obtain ⟨mm10, hmm10⟩ : ∃ q : Int, q = (if (0 : Int) < v9 then v9 else 0) := ⟨_, rfl⟩
    refine sv_same (st2 := [sv_i mm10]) (lv2 := [(0, sv_r a), (1, sv_i v)]) (by rw [hmm10]) rfl ?_
    refine sv_goto C.1 C.2.1 (off := 4) (tgt := 21) (by decide +kernel) (by decide) ?_
    exact sv_iret C hr (by decide +kernel) hok4 (⟨rfl, ⟨_, rfl, ⟨by omega, by omega⟩⟩⟩)

theorem fl_X0_15 : Cond.fieldLink RX0 15 "SaintsRoad$Brotherhoods" "quarrels" "[I" ∈ lw_good := sv_mem 323 (by decide +kernel) rfl
theorem fl_X0_33 : Cond.fieldLink RX0 33 "SaintsRoad$Brotherhoods" "quarrelCount" "I" ∈ lw_good := sv_mem 319 (by decide +kernel) rfl
set_option maxHeartbeats 4000000 in
set_option maxRecDepth 100000 in
theorem sf_X0_setQuarrel (l : Launch) (g : sv_G) (A : Nat → Prop) (ty : Nat → Nat) (σ : Nat → Nat → Int) (hok : sv_ok ty σ) (hTA : ∀ q, ty q ≠ 0 → A q) (hI : sv_inv sp_1 ty σ) (a : Nat) (k_a : ty a = 5) (v : Int) (h_v : 0 ≤ v ∧ v ≤ 9) (w : Int) (h_w : 0 ≤ w ∧ w ≤ 9) (on : Int) (h_on : 0 ≤ on ∧ on ≤ 1) : sv_M l yX0_setQuarrel cX0_setQuarrel 5 (some .boolean) { frames := 0, cells := 0, slots := 0, locals := 0 } g A ty σ [sv_r a, sv_i v, sv_i w, sv_i on] (fun r σ' => (∃ rv : Int, r = [sv_i rv] ∧ (0 ≤ rv ∧ rv ≤ 1)) ∧ sv_inv sp_1 ty σ' ∧ sv_ofx [(5, 1)] [31] ty σ σ') := by
  refine sv_enter (by decide) (Nat.le_of_ble_eq_true rfl) ?_
  intro p e s m args below meth c C hr
  have C : sv_C g A RX0 cX0_setQuarrel 5 p s m args meth c := C
  have hr : meth.sig.returnType = (some .boolean) := hr
  have hF : sv_ofx [(5, 1)] [31] ty σ σ := sv_ofx.rf
  refine sv_same (st2 := []) (lv2 := [(0, sv_r a), (1, sv_i v), (2, sv_i w), (3, sv_i on)]) rfl rfl ?_
  refine sv_go C.1 C.2.1 [(.aload_n 0, 1)] (pc' := 1) (by decide +kernel) rfl (lv' := [(0, sv_r a), (1, sv_i v), (2, sv_i w), (3, sv_i on)]) (st' := [sv_r a]) rfl ?_
  obtain ⟨v1, ev1, kv1⟩ := hI.ref (k := 3) k_a rfl
  refine sv_gf C (index := 15) (ci := 0) (k := 3) (r := (RX0, TX0, 12)) (v := sv_r v1) (by decide +kernel) (by rw [k_a]; rfl) rfl (by decide) fl_X0_15 (congrArg sv_a ev1) ?_
  refine sv_go C.1 C.2.1 [(.iload_n 1, 1)] (pc' := 5) (by decide +kernel) rfl (lv' := [(0, sv_r a), (1, sv_i v), (2, sv_i w), (3, sv_i on)]) (st' := [sv_i v, sv_r v1]) rfl ?_
  refine sv_ia C (n := 10) (by decide +kernel) (by rw [kv1]; rfl) (by decide) (by omega) (by omega) ?_
  obtain ⟨v2, ev2, hv2⟩ := sv_rde hok (a := v1) (k := (v : Int).toNat) (n := 10) (by rw [kv1]; rfl) (by omega)
  rw [ev2]
  refine sv_go C.1 C.2.1 [(.iload_n 2, 1), (.ishr, 1), (.iconst 1, 1), (.iand, 1)] (pc' := 10) (by decide +kernel) rfl (lv' := [(0, sv_r a), (1, sv_i v), (2, sv_i w), (3, sv_i on)]) (st' := [sv_i ((Int32.ofInt ((Int32.ofInt v2 >>> (Int32.ofInt w &&& 31)).toInt) &&& Int32.ofInt 1).toInt)]) rfl ?_
  have hb3 : (-2147483648) ≤ (Int32.ofInt v2 >>> (Int32.ofInt w &&& 31)).toInt ∧ (Int32.ofInt v2 >>> (Int32.ofInt w &&& 31)).toInt ≤ 2147483647 := sv_ioin2 (Int32.ofInt v2 >>> (Int32.ofInt w &&& 31))
  have hb4 : 0 ≤ (Int32.ofInt ((Int32.ofInt v2 >>> (Int32.ofInt w &&& 31)).toInt) &&& Int32.ofInt 1).toInt ∧ (Int32.ofInt ((Int32.ofInt v2 >>> (Int32.ofInt w &&& 31)).toInt) &&& Int32.ofInt 1).toInt ≤ 1 := sv_andr ((Int32.ofInt v2 >>> (Int32.ofInt w &&& 31)).toInt) 1 (by decide) (by decide)
  have J7 : ∀ (Jg6_s0 : Int), (0 ≤ Jg6_s0 ∧ Jg6_s0 ≤ 1) → sv_E p l e { frames := 0, cells := 0, slots := 0, locals := 0 } s m args below meth c 5 g A ty (fun r σ' => (∃ rv : Int, r = [sv_i rv] ∧ (0 ≤ rv ∧ rv ≤ 1)) ∧ sv_inv sp_1 ty σ' ∧ sv_ofx [(5, 1)] [31] ty σ σ') σ 18 [(0, sv_r a), (1, sv_i v), (2, sv_i w), (3, sv_i on)] [sv_i Jg6_s0] := by
    intro Jg6_s0 hJg6_s0
    refine sv_go C.1 C.2.1 [(.istore 4, 2), (.iload 4, 2), (.iload_n 3, 1)] (pc' := 23) (by decide +kernel) rfl (lv' := [(0, sv_r a), (1, sv_i v), (2, sv_i w), (3, sv_i on), (4, sv_i Jg6_s0)]) (st' := [sv_i on, sv_i Jg6_s0]) rfl ?_
    refine sv_icmp C.1 C.2.1 (cnd := .ne) (off := 5) (tgt := 28) (by decide +kernel) (by decide) ⟨by omega, by omega⟩ ⟨by omega, by omega⟩ (fun (h8 : Jg6_s0 ≠ on) => ?_) (fun (h8 : ¬ (Jg6_s0 ≠ on)) => ?_)
    · refine sv_go C.1 C.2.1 [(.aload_n 0, 1)] (pc' := 29) (by decide +kernel) rfl (lv' := [(0, sv_r a), (1, sv_i v), (2, sv_i w), (3, sv_i on), (4, sv_i Jg6_s0)]) (st' := [sv_r a]) rfl ?_
      refine sv_gf C (index := 15) (ci := 0) (k := 3) (r := (RX0, TX0, 12)) (v := sv_r v1) (by decide +kernel) (by rw [k_a]; rfl) rfl (by decide) fl_X0_15 (congrArg sv_a ev1) ?_
      refine sv_go C.1 C.2.1 [(.iload_n 1, 1), (.dup2, 1)] (pc' := 34) (by decide +kernel) rfl (lv' := [(0, sv_r a), (1, sv_i v), (2, sv_i w), (3, sv_i on), (4, sv_i Jg6_s0)]) (st' := [sv_i v, sv_r v1, sv_i v, sv_r v1]) rfl ?_
      refine sv_ia C (n := 10) (by decide +kernel) (by rw [kv1]; rfl) (by decide) (by omega) (by omega) ?_
      rw [ev2]
      refine sv_go C.1 C.2.1 [(.iconst 1, 1), (.iload_n 2, 1), (.ishl, 1), (.ixor, 1)] (pc' := 39) (by decide +kernel) rfl (lv' := [(0, sv_r a), (1, sv_i v), (2, sv_i w), (3, sv_i on), (4, sv_i Jg6_s0)]) (st' := [sv_i ((Int32.ofInt v2 ^^^ Int32.ofInt ((Int32.ofInt 1 <<< (Int32.ofInt w &&& 31)).toInt)).toInt), sv_i v, sv_r v1]) rfl ?_
      have hb9 : (-2147483648) ≤ (Int32.ofInt 1 <<< (Int32.ofInt w &&& 31)).toInt ∧ (Int32.ofInt 1 <<< (Int32.ofInt w &&& 31)).toInt ≤ 2147483647 := sv_ioin2 (Int32.ofInt 1 <<< (Int32.ofInt w &&& 31))
      have hb10 : (-2147483648) ≤ (Int32.ofInt v2 ^^^ Int32.ofInt ((Int32.ofInt 1 <<< (Int32.ofInt w &&& 31)).toInt)).toInt ∧ (Int32.ofInt v2 ^^^ Int32.ofInt ((Int32.ofInt 1 <<< (Int32.ofInt w &&& 31)).toInt)).toInt ≤ 2147483647 := sv_ioin2 (Int32.ofInt v2 ^^^ Int32.ofInt ((Int32.ofInt 1 <<< (Int32.ofInt w &&& 31)).toInt))
      refine sv_is C (n := 10) (by decide +kernel) (by rw [kv1]; rfl) (by decide) (by omega) (by omega) ⟨by omega, by omega⟩ (hTA _ (by rw [kv1]; decide)) hok (fun hok11 => ?_)
      have hI13 := hI.up (a := v1) (k := (v : Int).toNat) (z := (Int32.ofInt v2 ^^^ Int32.ofInt ((Int32.ofInt 1 <<< (Int32.ofInt w &&& 31)).toInt)).toInt) (by rw [kv1]; exact trivial)
      have hF14 := hF.up (a := v1) (k := (v : Int).toNat) (z := (Int32.ofInt v2 ^^^ Int32.ofInt ((Int32.ofInt 1 <<< (Int32.ofInt w &&& 31)).toInt)).toInt) (Or.inl (by rw [kv1]; decide))
      generalize eσ12 : sv_up σ v1 (v : Int).toNat ((Int32.ofInt v2 ^^^ Int32.ofInt ((Int32.ofInt 1 <<< (Int32.ofInt w &&& 31)).toInt)).toInt) = σ12 at hok11 hI13 hF14 ⊢
      have t15 : σ12 a 3 = (v1 : Int) + 1 := by rw [← eσ12, sv_up_a (sv_ne k_a kv1 (by decide))]; exact ev1
      have t17 : σ12 v1 (v : Int).toNat = (Int32.ofInt v2 ^^^ Int32.ofInt ((Int32.ofInt 1 <<< (Int32.ofInt w &&& 31)).toInt)).toInt := by rw [← eσ12]; exact sv_up_s _ _ _ _
      refine sv_go C.1 C.2.1 [(.aload_n 0, 1)] (pc' := 41) (by decide +kernel) rfl (lv' := [(0, sv_r a), (1, sv_i v), (2, sv_i w), (3, sv_i on), (4, sv_i Jg6_s0)]) (st' := [sv_r a]) rfl ?_
      refine sv_gf C (index := 15) (ci := 0) (k := 3) (r := (RX0, TX0, 12)) (v := sv_r v1) (by decide +kernel) (by rw [k_a]; rfl) rfl (by decide) fl_X0_15 (congrArg sv_a t15) ?_
      refine sv_go C.1 C.2.1 [(.iload_n 2, 1), (.dup2, 1)] (pc' := 46) (by decide +kernel) rfl (lv' := [(0, sv_r a), (1, sv_i v), (2, sv_i w), (3, sv_i on), (4, sv_i Jg6_s0)]) (st' := [sv_i w, sv_r v1, sv_i w, sv_r v1]) rfl ?_
      refine sv_ia C (n := 10) (by decide +kernel) (by rw [kv1]; rfl) (by decide) (by omega) (by omega) ?_
      obtain ⟨v18, ev18, hv18⟩ := sv_rde hok11 (a := v1) (k := (w : Int).toNat) (n := 10) (by rw [kv1]; rfl) (by omega)
      rw [ev18]
      refine sv_go C.1 C.2.1 [(.iconst 1, 1), (.iload_n 1, 1), (.ishl, 1), (.ixor, 1)] (pc' := 51) (by decide +kernel) rfl (lv' := [(0, sv_r a), (1, sv_i v), (2, sv_i w), (3, sv_i on), (4, sv_i Jg6_s0)]) (st' := [sv_i ((Int32.ofInt v18 ^^^ Int32.ofInt ((Int32.ofInt 1 <<< (Int32.ofInt v &&& 31)).toInt)).toInt), sv_i w, sv_r v1]) rfl ?_
      have hb19 : (-2147483648) ≤ (Int32.ofInt 1 <<< (Int32.ofInt v &&& 31)).toInt ∧ (Int32.ofInt 1 <<< (Int32.ofInt v &&& 31)).toInt ≤ 2147483647 := sv_ioin2 (Int32.ofInt 1 <<< (Int32.ofInt v &&& 31))
      have hb20 : (-2147483648) ≤ (Int32.ofInt v18 ^^^ Int32.ofInt ((Int32.ofInt 1 <<< (Int32.ofInt v &&& 31)).toInt)).toInt ∧ (Int32.ofInt v18 ^^^ Int32.ofInt ((Int32.ofInt 1 <<< (Int32.ofInt v &&& 31)).toInt)).toInt ≤ 2147483647 := sv_ioin2 (Int32.ofInt v18 ^^^ Int32.ofInt ((Int32.ofInt 1 <<< (Int32.ofInt v &&& 31)).toInt))
      refine sv_is C (n := 10) (by decide +kernel) (by rw [kv1]; rfl) (by decide) (by omega) (by omega) ⟨by omega, by omega⟩ (hTA _ (by rw [kv1]; decide)) hok11 (fun hok21 => ?_)
      have hI23 := hI13.up (a := v1) (k := (w : Int).toNat) (z := (Int32.ofInt v18 ^^^ Int32.ofInt ((Int32.ofInt 1 <<< (Int32.ofInt v &&& 31)).toInt)).toInt) (by rw [kv1]; exact trivial)
      have hF24 := hF14.up (a := v1) (k := (w : Int).toNat) (z := (Int32.ofInt v18 ^^^ Int32.ofInt ((Int32.ofInt 1 <<< (Int32.ofInt v &&& 31)).toInt)).toInt) (Or.inl (by rw [kv1]; decide))
      generalize eσ22 : sv_up σ12 v1 (w : Int).toNat ((Int32.ofInt v18 ^^^ Int32.ofInt ((Int32.ofInt 1 <<< (Int32.ofInt v &&& 31)).toInt)).toInt) = σ22 at hok21 hI23 hF24 ⊢
      have t25 : σ22 a 3 = (v1 : Int) + 1 := by rw [← eσ22, sv_up_a (sv_ne k_a kv1 (by decide))]; exact t15
      have t28 : σ22 v1 (w : Int).toNat = (Int32.ofInt v18 ^^^ Int32.ofInt ((Int32.ofInt 1 <<< (Int32.ofInt v &&& 31)).toInt)).toInt := by rw [← eσ22]; exact sv_up_s _ _ _ _
      refine sv_go C.1 C.2.1 [(.aload_n 0, 1), (.dup, 1)] (pc' := 54) (by decide +kernel) rfl (lv' := [(0, sv_r a), (1, sv_i v), (2, sv_i w), (3, sv_i on), (4, sv_i Jg6_s0)]) (st' := [sv_r a, sv_r a]) rfl ?_
      obtain ⟨v29, ev29, hv29⟩ := sv_rdk hok21 (a := a) (k := 1) (ci := 0) (r := (RX0, TX0, 12)) (by rw [k_a]; rfl) rfl (by decide) rfl
      refine sv_gf C (index := 33) (ci := 0) (k := 1) (r := (RX0, TX0, 12)) (v := sv_i v29) (by decide +kernel) (by rw [k_a]; rfl) rfl (by decide) fl_X0_33 (congrArg sv_i ev29) ?_
      refine sv_go C.1 C.2.1 [(.iload_n 3, 1)] (pc' := 58) (by decide +kernel) rfl (lv' := [(0, sv_r a), (1, sv_i v), (2, sv_i w), (3, sv_i on), (4, sv_i Jg6_s0)]) (st' := [sv_i on, sv_i v29, sv_r a]) rfl ?_
      have J32 : ∀ (Jg31_s0 : Int), ((-1) ≤ Jg31_s0 ∧ Jg31_s0 ≤ 1) → sv_E p l e { frames := 0, cells := 0, slots := 0, locals := 0 } s m args below meth c 5 g A ty (fun r σ' => (∃ rv : Int, r = [sv_i rv] ∧ (0 ≤ rv ∧ rv ≤ 1)) ∧ sv_inv sp_1 ty σ' ∧ sv_ofx [(5, 1)] [31] ty σ σ') σ22 66 [] [sv_i Jg31_s0, sv_i v29, sv_r a] := by
        intro Jg31_s0 hJg31_s0
        refine sv_go C.1 C.2.1 [(.iadd, 1)] (pc' := 67) (by decide +kernel) rfl (lv' := []) (st' := [sv_i (v29 + Jg31_s0), sv_r a]) rfl ?_
        obtain ⟨w33, hw33, ew33⟩ := sv_wr (v29 + Jg31_s0)
        refine sv_sameD (st2 := [sv_i w33, sv_r a]) (lv2 := []) (by simp only [List.map_cons, List.map_nil, sv_den_i, ew33]) rfl ?_
        refine sv_pf C (index := 33) (ci := 0) (k := 1) (r := (RX0, TX0, 12)) (z := w33) (by decide +kernel) (by rw [k_a]; rfl) rfl (by decide) rfl fl_X0_33 rfl (Or.inl rfl) ⟨by omega, by omega⟩ (hTA _ (by rw [k_a]; decide)) hok21 (fun hok34 => ?_)
        have hI36 := hI23.up (a := a) (k := 1) (z := w33) (by rw [k_a]; exact trivial)
        have hF37 := hF24.up (a := a) (k := 1) (z := w33) (Or.inr (by rw [k_a]; decide))
        generalize eσ35 : sv_up σ22 a 1 w33 = σ35 at hok34 hI36 hF37 ⊢
        have t38 : σ35 a 3 = (v1 : Int) + 1 := by rw [← eσ35, sv_up_k (by decide)]; exact t25
        have t39 : σ35 v1 (w : Int).toNat = (Int32.ofInt v18 ^^^ Int32.ofInt ((Int32.ofInt 1 <<< (Int32.ofInt v &&& 31)).toInt)).toInt := by rw [← eσ35, sv_up_a (sv_ne kv1 k_a (by decide))]; exact t28
        have t40 : σ35 a 1 = w33 := by rw [← eσ35]; exact sv_up_s _ _ _ _
        refine sv_go C.1 C.2.1 [(.iconst 1, 1)] (pc' := 71) (by decide +kernel) rfl (lv' := []) (st' := [sv_i 1]) rfl ?_
        exact sv_zret C hr (by omega) (by decide +kernel) hok34 (⟨⟨_, rfl, ⟨by omega, by omega⟩⟩, hI36, hF37⟩)
      refine sv_if C.1 C.2.1 (cnd := .eq) (off := 7) (tgt := 65) (by decide +kernel) (by decide) ⟨by omega, by omega⟩ (fun (h30 : on = 0) => ?_) (fun (h30 : ¬ (on = 0)) => ?_)
      · refine sv_go C.1 C.2.1 [(.iconst (-1), 1)] (pc' := 66) (by decide +kernel) rfl (lv' := [(0, sv_r a), (1, sv_i v), (2, sv_i w), (3, sv_i on), (4, sv_i Jg6_s0)]) (st' := [sv_i ((-1)), sv_i v29, sv_r a]) rfl ?_
        refine sv_pick [] (lv2 := []) rfl ?_
        exact J32 ((-1)) ⟨by omega, by omega⟩
      · refine sv_go C.1 C.2.1 [(.iconst 1, 1)] (pc' := 62) (by decide +kernel) rfl (lv' := [(0, sv_r a), (1, sv_i v), (2, sv_i w), (3, sv_i on), (4, sv_i Jg6_s0)]) (st' := [sv_i 1, sv_i v29, sv_r a]) rfl ?_
        refine sv_goto C.1 C.2.1 (off := 4) (tgt := 66) (by decide +kernel) (by decide) ?_
        refine sv_pick [] (lv2 := []) rfl ?_
        exact J32 1 ⟨by omega, by omega⟩
    · refine sv_go C.1 C.2.1 [(.iconst 0, 1)] (pc' := 27) (by decide +kernel) rfl (lv' := [(0, sv_r a), (1, sv_i v), (2, sv_i w), (3, sv_i on), (4, sv_i Jg6_s0)]) (st' := [sv_i 0]) rfl ?_
      exact sv_zret C hr (by omega) (by decide +kernel) hok (⟨⟨_, rfl, ⟨by omega, by omega⟩⟩, hI, hF⟩)
  refine sv_if C.1 C.2.1 (cnd := .eq) (off := 7) (tgt := 17) (by decide +kernel) (by decide) ⟨by omega, by omega⟩ (fun (h5 : ((Int32.ofInt ((Int32.ofInt v2 >>> (Int32.ofInt w &&& 31)).toInt) &&& Int32.ofInt 1).toInt) = 0) => ?_) (fun (h5 : ¬ (((Int32.ofInt ((Int32.ofInt v2 >>> (Int32.ofInt w &&& 31)).toInt) &&& Int32.ofInt 1).toInt) = 0)) => ?_)
  · refine sv_go C.1 C.2.1 [(.iconst 0, 1)] (pc' := 18) (by decide +kernel) rfl (lv' := [(0, sv_r a), (1, sv_i v), (2, sv_i w), (3, sv_i on)]) (st' := [sv_i 0]) rfl ?_
    exact J7 0 ⟨by omega, by omega⟩
  · refine sv_go C.1 C.2.1 [(.iconst 1, 1)] (pc' := 14) (by decide +kernel) rfl (lv' := [(0, sv_r a), (1, sv_i v), (2, sv_i w), (3, sv_i on)]) (st' := [sv_i 1]) rfl ?_
    refine sv_goto C.1 C.2.1 (off := 4) (tgt := 18) (by decide +kernel) (by decide) ?_
    exact J7 1 ⟨by omega, by omega⟩

theorem fl_X0_37 : Cond.fieldLink RX0 37 "SaintsRoad$Brotherhoods" "set" "I" ∈ lw_good := sv_mem 329 (by decide +kernel) rfl
theorem fl_X0_40 : Cond.fieldLink RX0 40 "SaintsRoad$Brotherhoods" "turns" "I" ∈ lw_good := sv_mem 321 (by decide +kernel) rfl
theorem fl_X0_43 : Cond.fieldLink RX0 43 "SaintsRoad$Brotherhoods" "latestCarrier" "I" ∈ lw_good := sv_mem 330 (by decide +kernel) rfl
theorem fl_X0_9 : Cond.fieldLink RX0 9 "SaintsRoad$Brotherhoods" "carriedBy" "[I" ∈ lw_good := sv_mem 317 (by decide +kernel) rfl
theorem ml_X0_46 : Cond.methodLink RX0 46 yJ7_fill_53178 ∈ lw_good := sv_mem 839 (by decide +kernel) rfl
theorem fl_X0_18 : Cond.fieldLink RX0 18 "SaintsRoad$Brotherhoods" "latestTurn" "[I" ∈ lw_good := sv_mem 324 (by decide +kernel) rfl
set_option maxHeartbeats 4000000 in
set_option maxRecDepth 100000 in
theorem sf_X0_startTurns (l : Launch) (g : sv_G) (A : Nat → Prop) (ty : Nat → Nat) (σ : Nat → Nat → Int) (hok : sv_ok ty σ) (hTA : ∀ q, ty q ≠ 0 → A q) (hI : sv_inv sp_1 ty σ) (a : Nat) (k_a : ty a = 5) (v : Int) (h_v : (-2147483648) ≤ v ∧ v ≤ 2147483647) : sv_M l yX0_startTurns cX0_startTurns 2 none { frames := 1, cells := 0, slots := 0, locals := 23 } g A ty σ [sv_r a, sv_i v] (fun r σ' => (r = []) ∧ sv_inv sp_1 ty σ' ∧ sv_ofx [(5, 2), (5, 9), (5, 10)] [30, 32] ty σ σ') := by
  refine sv_enter (by decide) (Nat.le_of_ble_eq_true rfl) ?_
  intro p e s m args below meth c C hr
  have C : sv_C g A RX0 cX0_startTurns 2 p s m args meth c := C
  have hr : meth.sig.returnType = none := hr
  have hF : sv_ofx [(5, 2), (5, 9), (5, 10)] [30, 32] ty σ σ := sv_ofx.rf
  refine sv_same (st2 := []) (lv2 := [(0, sv_r a), (1, sv_i v)]) rfl rfl ?_
  refine sv_go C.1 C.2.1 [(.aload_n 0, 1), (.iload_n 1, 1)] (pc' := 2) (by decide +kernel) rfl (lv' := [(0, sv_r a), (1, sv_i v)]) (st' := [sv_i v, sv_r a]) rfl ?_
  refine sv_pf C (index := 37) (ci := 0) (k := 9) (r := (RX0, TX0, 12)) (z := v) (by decide +kernel) (by rw [k_a]; rfl) rfl (by decide) rfl fl_X0_37 rfl (Or.inl rfl) ⟨by omega, by omega⟩ (hTA _ (by rw [k_a]; decide)) hok (fun hok1 => ?_)
  have hI3 := hI.up (a := a) (k := 9) (z := v) (by rw [k_a]; exact trivial)
  have hF4 := hF.up (a := a) (k := 9) (z := v) (Or.inr (by rw [k_a]; decide))
  generalize eσ2 : sv_up σ a 9 v = σ2 at hok1 hI3 hF4 ⊢
  have t5 : σ2 a 9 = v := by rw [← eσ2]; exact sv_up_s _ _ _ _
  refine sv_go C.1 C.2.1 [(.aload_n 0, 1), (.iconst 0, 1)] (pc' := 7) (by decide +kernel) rfl (lv' := [(0, sv_r a), (1, sv_i v)]) (st' := [sv_i 0, sv_r a]) rfl ?_
  refine sv_pf C (index := 40) (ci := 0) (k := 2) (r := (RX0, TX0, 12)) (z := 0) (by decide +kernel) (by rw [k_a]; rfl) rfl (by decide) rfl fl_X0_40 rfl (Or.inl rfl) ⟨by omega, by omega⟩ (hTA _ (by rw [k_a]; decide)) hok1 (fun hok6 => ?_)
  have hI8 := hI3.up (a := a) (k := 2) (z := 0) (by rw [k_a]; exact ⟨by omega, by omega⟩)
  have hF9 := hF4.up (a := a) (k := 2) (z := 0) (Or.inr (by rw [k_a]; decide))
  generalize eσ7 : sv_up σ2 a 2 0 = σ7 at hok6 hI8 hF9 ⊢
  have t10 : σ7 a 9 = v := by rw [← eσ7, sv_up_k (by decide)]; exact t5
  have t11 : σ7 a 2 = 0 := by rw [← eσ7]; exact sv_up_s _ _ _ _
  refine sv_go C.1 C.2.1 [(.aload_n 0, 1), (.iconst (-1), 1)] (pc' := 12) (by decide +kernel) rfl (lv' := [(0, sv_r a), (1, sv_i v)]) (st' := [sv_i ((-1)), sv_r a]) rfl ?_
  refine sv_pf C (index := 43) (ci := 0) (k := 10) (r := (RX0, TX0, 12)) (z := (-1)) (by decide +kernel) (by rw [k_a]; rfl) rfl (by decide) rfl fl_X0_43 rfl (Or.inl rfl) ⟨by omega, by omega⟩ (hTA _ (by rw [k_a]; decide)) hok6 (fun hok12 => ?_)
  have hI14 := hI8.up (a := a) (k := 10) (z := (-1)) (by rw [k_a]; exact ⟨by omega, by omega⟩)
  have hF15 := hF9.up (a := a) (k := 10) (z := (-1)) (Or.inr (by rw [k_a]; decide))
  generalize eσ13 : sv_up σ7 a 10 ((-1)) = σ13 at hok12 hI14 hF15 ⊢
  have t16 : σ13 a 9 = v := by rw [← eσ13, sv_up_k (by decide)]; exact t10
  have t17 : σ13 a 2 = 0 := by rw [← eσ13, sv_up_k (by decide)]; exact t11
  have t18 : σ13 a 10 = (-1) := by rw [← eσ13]; exact sv_up_s _ _ _ _
  refine sv_go C.1 C.2.1 [(.aload_n 0, 1)] (pc' := 16) (by decide +kernel) rfl (lv' := [(0, sv_r a), (1, sv_i v)]) (st' := [sv_r a]) rfl ?_
  obtain ⟨v19, ev19, kv19⟩ := hI14.ref (k := 0) k_a rfl
  refine sv_gf C (index := 9) (ci := 0) (k := 0) (r := (RX0, TX0, 12)) (v := sv_r v19) (by decide +kernel) (by rw [k_a]; rfl) rfl (by decide) fl_X0_9 (congrArg sv_a ev19) ?_
  refine sv_go C.1 C.2.1 [(.iconst 0, 1)] (pc' := 20) (by decide +kernel) rfl (lv' := [(0, sv_r a), (1, sv_i v)]) (st' := [sv_i 0, sv_r v19]) rfl ?_
  refine sv_cs C (index := 46) (k := 2) (rest := []) (by decide +kernel) (ct_fill l g A ty σ13 hok12 v19 10 (by rw [kv19]; rfl) (by decide) (hTA _ (by rw [kv19]; decide)) (0) ⟨by omega, by omega⟩) ⟨co_J7_fill_53178, in_J7, ⟨by decide, by decide, by decide +kernel⟩, Nat.le_of_ble_eq_true rfl, Nat.le_of_ble_eq_true rfl⟩ ml_X0_46 st_J7_fill_53178 rfl rfl (Nat.le_of_ble_eq_true rfl) ⟨Nat.zero_le _, Nat.zero_le _⟩ (fun r21 σ22 hpo20 hok23 => ?_)
  obtain ⟨rfl, h1u24, h2u24, h3u24⟩ := hpo20
  have hIu24 := hI14.fill (b := v19) (n := 10) (v := 0) (fun k => by rw [kv19]; exact trivial) h1u24 h2u24 h3u24
  have hGu24 := hF15.fill (b := v19) (by rw [kv19]; decide) h1u24
  have t25 : σ22 a 9 = v := (h1u24 a (sv_ne k_a kv19 (by decide)) 9).trans t16
  have t26 : σ22 a 2 = 0 := (h1u24 a (sv_ne k_a kv19 (by decide)) 2).trans t17
  have t27 : σ22 a 10 = (-1) := (h1u24 a (sv_ne k_a kv19 (by decide)) 10).trans t18
  have t28 : σ22 a 0 = (v19 : Int) + 1 := (h1u24 a (sv_ne k_a kv19 (by decide)) 0).trans ev19
  refine sv_same (st2 := []) (lv2 := [(0, sv_r a), (1, sv_i v)]) rfl rfl ?_
  refine sv_go C.1 C.2.1 [(.aload_n 0, 1)] (pc' := 24) (by decide +kernel) rfl (lv' := [(0, sv_r a), (1, sv_i v)]) (st' := [sv_r a]) rfl ?_
  obtain ⟨v29, ev29, kv29⟩ := hIu24.ref (k := 4) k_a rfl
  refine sv_gf C (index := 18) (ci := 0) (k := 4) (r := (RX0, TX0, 12)) (v := sv_r v29) (by decide +kernel) (by rw [k_a]; rfl) rfl (by decide) fl_X0_18 (congrArg sv_a ev29) ?_
  refine sv_go C.1 C.2.1 [(.iconst (-1), 1)] (pc' := 28) (by decide +kernel) rfl (lv' := [(0, sv_r a), (1, sv_i v)]) (st' := [sv_i ((-1)), sv_r v29]) rfl ?_
  refine sv_cs C (index := 46) (k := 2) (rest := []) (by decide +kernel) (ct_fill l g A ty σ22 hok23 v29 10 (by rw [kv29]; rfl) (by decide) (hTA _ (by rw [kv29]; decide)) ((-1)) ⟨by omega, by omega⟩) ⟨co_J7_fill_53178, in_J7, ⟨by decide, by decide, by decide +kernel⟩, Nat.le_of_ble_eq_true rfl, Nat.le_of_ble_eq_true rfl⟩ ml_X0_46 st_J7_fill_53178 rfl rfl (Nat.le_of_ble_eq_true rfl) ⟨Nat.zero_le _, Nat.zero_le _⟩ (fun r31 σ32 hpo30 hok33 => ?_)
  obtain ⟨rfl, h1u34, h2u34, h3u34⟩ := hpo30
  have hIu34 := hIu24.fill (b := v29) (n := 10) (v := (-1)) (fun k => by rw [kv29]; exact trivial) h1u34 h2u34 h3u34
  have hGu34 := hGu24.fill (b := v29) (by rw [kv29]; decide) h1u34
  have t35 : σ32 a 9 = v := (h1u34 a (sv_ne k_a kv29 (by decide)) 9).trans t25
  have t36 : σ32 a 2 = 0 := (h1u34 a (sv_ne k_a kv29 (by decide)) 2).trans t26
  have t37 : σ32 a 10 = (-1) := (h1u34 a (sv_ne k_a kv29 (by decide)) 10).trans t27
  have t38 : σ32 a 0 = (v19 : Int) + 1 := (h1u34 a (sv_ne k_a kv29 (by decide)) 0).trans t28
  have t39 : σ32 a 4 = (v29 : Int) + 1 := (h1u34 a (sv_ne k_a kv29 (by decide)) 4).trans ev29
  refine sv_same (st2 := []) (lv2 := [(0, sv_r a), (1, sv_i v)]) rfl rfl ?_
  exact sv_vret C hr (by decide +kernel) hok33 (⟨rfl, hIu34, hGu34⟩)

theorem fl_X0_64 : Cond.fieldLink RX0 64 "SaintsRoad$Brotherhoods" "latestDay" "I" ∈ lw_good := sv_mem 331 (by decide +kernel) rfl
set_option maxHeartbeats 4000000 in
set_option maxRecDepth 100000 in
theorem sf_X0_allowed (l : Launch) (g : sv_G) (A : Nat → Prop) (ty : Nat → Nat) (σ : Nat → Nat → Int) (hok : sv_ok ty σ) (hTA : ∀ q, ty q ≠ 0 → A q) (hI : sv_inv sp_1 ty σ) (a : Nat) (k_a : ty a = 5) (v : Int) (h_v : (-2147483648) ≤ v ∧ v ≤ 2147483647) : sv_M l yX0_allowed cX0_allowed 3 (some .int) { frames := 0, cells := 0, slots := 0, locals := 0 } g A ty σ [sv_r a, sv_i v] (fun r σ' => σ = σ' ∧ ∃ rv : Int, r = [sv_i rv] ∧ ((-2147483648) ≤ rv ∧ rv ≤ 2147483647)) := by
  refine sv_enter (by decide) (Nat.le_of_ble_eq_true rfl) ?_
  intro p e s m args below meth c C hr
  have C : sv_C g A RX0 cX0_allowed 3 p s m args meth c := C
  have hr : meth.sig.returnType = (some .int) := hr
  have hF : sv_ofx [] [] ty σ σ := sv_ofx.rf
  refine sv_same (st2 := []) (lv2 := [(0, sv_r a), (1, sv_i v)]) rfl rfl ?_
  refine sv_go C.1 C.2.1 [(.aload_n 0, 1)] (pc' := 1) (by decide +kernel) rfl (lv' := [(0, sv_r a), (1, sv_i v)]) (st' := [sv_r a]) rfl ?_
  obtain ⟨v1, ev1, hv1⟩ := sv_rdn hI (k := 10) k_a rfl
  refine sv_gf C (index := 43) (ci := 0) (k := 10) (r := (RX0, TX0, 12)) (v := sv_i v1) (by decide +kernel) (by rw [k_a]; rfl) rfl (by decide) fl_X0_43 (congrArg sv_i ev1) ?_
  refine sv_if C.1 C.2.1 (cnd := .lt) (off := 14) (tgt := 18) (by decide +kernel) (by decide) ⟨by omega, by omega⟩ (fun (h2 : v1 < 0) => ?_) (fun (h2 : ¬ (v1 < 0)) => ?_)
  · refine sv_go C.1 C.2.1 [(.aload_n 0, 1)] (pc' := 19) (by decide +kernel) rfl (lv' := [(0, sv_r a), (1, sv_i v)]) (st' := [sv_r a]) rfl ?_
    obtain ⟨v3, ev3, hv3⟩ := sv_rdk hok (a := a) (k := 9) (ci := 0) (r := (RX0, TX0, 12)) (by rw [k_a]; rfl) rfl (by decide) rfl
    refine sv_gf C (index := 37) (ci := 0) (k := 9) (r := (RX0, TX0, 12)) (v := sv_i v3) (by decide +kernel) (by rw [k_a]; rfl) rfl (by decide) fl_X0_37 (congrArg sv_i ev3) ?_
    exact sv_iret C hr (by decide +kernel) hok (⟨rfl, ⟨_, rfl, ⟨by omega, by omega⟩⟩⟩)
  · refine sv_go C.1 C.2.1 [(.iload_n 1, 1), (.aload_n 0, 1)] (pc' := 9) (by decide +kernel) rfl (lv' := [(0, sv_r a), (1, sv_i v)]) (st' := [sv_r a, sv_i v]) rfl ?_
    obtain ⟨v4, ev4, hv4⟩ := sv_rdk hok (a := a) (k := 11) (ci := 0) (r := (RX0, TX0, 12)) (by rw [k_a]; rfl) rfl (by decide) rfl
    refine sv_gf C (index := 64) (ci := 0) (k := 11) (r := (RX0, TX0, 12)) (v := sv_i v4) (by decide +kernel) (by rw [k_a]; rfl) rfl (by decide) fl_X0_64 (congrArg sv_i ev4) ?_
    refine sv_go C.1 C.2.1 [(.isub, 1), (.bipush 7, 2)] (pc' := 15) (by decide +kernel) rfl (lv' := [(0, sv_r a), (1, sv_i v)]) (st' := [sv_i 7, sv_i (v - v4)]) rfl ?_
    obtain ⟨w5, hw5, ew5⟩ := sv_wr (v - v4)
    refine sv_sameD (st2 := [sv_i 7, sv_i w5]) (lv2 := [(0, sv_r a), (1, sv_i v)]) (by simp only [List.map_cons, List.map_nil, sv_den_i, ew5]) rfl ?_
    refine sv_icmp C.1 C.2.1 (cnd := .le) (off := 8) (tgt := 23) (by decide +kernel) (by decide) ⟨by omega, by omega⟩ ⟨by omega, by omega⟩ (fun (h6 : w5 ≤ 7) => ?_) (fun (h6 : ¬ (w5 ≤ 7)) => ?_)
    · refine sv_go C.1 C.2.1 [(.aload_n 0, 1)] (pc' := 24) (by decide +kernel) rfl (lv' := [(0, sv_r a), (1, sv_i v)]) (st' := [sv_r a]) rfl ?_
      obtain ⟨v7, ev7, hv7⟩ := sv_rdk hok (a := a) (k := 9) (ci := 0) (r := (RX0, TX0, 12)) (by rw [k_a]; rfl) rfl (by decide) rfl
      refine sv_gf C (index := 37) (ci := 0) (k := 9) (r := (RX0, TX0, 12)) (v := sv_i v7) (by decide +kernel) (by rw [k_a]; rfl) rfl (by decide) fl_X0_37 (congrArg sv_i ev7) ?_
      refine sv_go C.1 C.2.1 [(.aload_n 0, 1)] (pc' := 28) (by decide +kernel) rfl (lv' := [(0, sv_r a), (1, sv_i v)]) (st' := [sv_r a, sv_i v7]) rfl ?_
      obtain ⟨v8, ev8, kv8⟩ := hI.ref (k := 3) k_a rfl
      refine sv_gf C (index := 15) (ci := 0) (k := 3) (r := (RX0, TX0, 12)) (v := sv_r v8) (by decide +kernel) (by rw [k_a]; rfl) rfl (by decide) fl_X0_15 (congrArg sv_a ev8) ?_
      refine sv_go C.1 C.2.1 [(.aload_n 0, 1)] (pc' := 32) (by decide +kernel) rfl (lv' := [(0, sv_r a), (1, sv_i v)]) (st' := [sv_r a, sv_r v8, sv_i v7]) rfl ?_
      refine sv_gf C (index := 43) (ci := 0) (k := 10) (r := (RX0, TX0, 12)) (v := sv_i v1) (by decide +kernel) (by rw [k_a]; rfl) rfl (by decide) fl_X0_43 (congrArg sv_i ev1) ?_
      refine sv_ia C (n := 10) (by decide +kernel) (by rw [kv8]; rfl) (by decide) (by omega) (by omega) ?_
      obtain ⟨v9, ev9, hv9⟩ := sv_rde hok (a := v8) (k := (v1 : Int).toNat) (n := 10) (by rw [kv8]; rfl) (by omega)
      rw [ev9]
      refine sv_go C.1 C.2.1 [(.iconst (-1), 1), (.ixor, 1), (.iand, 1), (.istore_n 2, 1), (.iload_n 2, 1)] (pc' := 41) (by decide +kernel) rfl (lv' := [(0, sv_r a), (1, sv_i v), (2, sv_i ((Int32.ofInt v7 &&& Int32.ofInt ((Int32.ofInt v9 ^^^ Int32.ofInt ((-1))).toInt)).toInt))]) (st' := [sv_i ((Int32.ofInt v7 &&& Int32.ofInt ((Int32.ofInt v9 ^^^ Int32.ofInt ((-1))).toInt)).toInt)]) rfl ?_
      have hb10 : (-2147483648) ≤ (Int32.ofInt v9 ^^^ Int32.ofInt ((-1))).toInt ∧ (Int32.ofInt v9 ^^^ Int32.ofInt ((-1))).toInt ≤ 2147483647 := sv_ioin2 (Int32.ofInt v9 ^^^ Int32.ofInt ((-1)))
      have hb11 : (-2147483648) ≤ (Int32.ofInt v7 &&& Int32.ofInt ((Int32.ofInt v9 ^^^ Int32.ofInt ((-1))).toInt)).toInt ∧ (Int32.ofInt v7 &&& Int32.ofInt ((Int32.ofInt v9 ^^^ Int32.ofInt ((-1))).toInt)).toInt ≤ 2147483647 := sv_ioin2 (Int32.ofInt v7 &&& Int32.ofInt ((Int32.ofInt v9 ^^^ Int32.ofInt ((-1))).toInt))
      refine sv_if C.1 C.2.1 (cnd := .eq) (off := 7) (tgt := 48) (by decide +kernel) (by decide) ⟨by omega, by omega⟩ (fun (h12 : ((Int32.ofInt v7 &&& Int32.ofInt ((Int32.ofInt v9 ^^^ Int32.ofInt ((-1))).toInt)).toInt) = 0) => ?_) (fun (h12 : ¬ (((Int32.ofInt v7 &&& Int32.ofInt ((Int32.ofInt v9 ^^^ Int32.ofInt ((-1))).toInt)).toInt) = 0)) => ?_)
      · refine sv_go C.1 C.2.1 [(.aload_n 0, 1)] (pc' := 49) (by decide +kernel) rfl (lv' := [(0, sv_r a), (1, sv_i v), (2, sv_i ((Int32.ofInt v7 &&& Int32.ofInt ((Int32.ofInt v9 ^^^ Int32.ofInt ((-1))).toInt)).toInt))]) (st' := [sv_r a]) rfl ?_
        refine sv_gf C (index := 37) (ci := 0) (k := 9) (r := (RX0, TX0, 12)) (v := sv_i v7) (by decide +kernel) (by rw [k_a]; rfl) rfl (by decide) fl_X0_37 (congrArg sv_i ev7) ?_
        exact sv_iret C hr (by decide +kernel) hok (⟨rfl, ⟨_, rfl, ⟨by omega, by omega⟩⟩⟩)
      · refine sv_go C.1 C.2.1 [(.iload_n 2, 1)] (pc' := 45) (by decide +kernel) rfl (lv' := [(0, sv_r a), (1, sv_i v), (2, sv_i ((Int32.ofInt v7 &&& Int32.ofInt ((Int32.ofInt v9 ^^^ Int32.ofInt ((-1))).toInt)).toInt))]) (st' := [sv_i ((Int32.ofInt v7 &&& Int32.ofInt ((Int32.ofInt v9 ^^^ Int32.ofInt ((-1))).toInt)).toInt)]) rfl ?_
        refine sv_goto C.1 C.2.1 (off := 7) (tgt := 52) (by decide +kernel) (by decide) ?_
        exact sv_iret C hr (by decide +kernel) hok (⟨rfl, ⟨_, rfl, ⟨by omega, by omega⟩⟩⟩)
    · refine sv_go C.1 C.2.1 [(.aload_n 0, 1)] (pc' := 19) (by decide +kernel) rfl (lv' := [(0, sv_r a), (1, sv_i v)]) (st' := [sv_r a]) rfl ?_
      obtain ⟨v13, ev13, hv13⟩ := sv_rdk hok (a := a) (k := 9) (ci := 0) (r := (RX0, TX0, 12)) (by rw [k_a]; rfl) rfl (by decide) rfl
      refine sv_gf C (index := 37) (ci := 0) (k := 9) (r := (RX0, TX0, 12)) (v := sv_i v13) (by decide +kernel) (by rw [k_a]; rfl) rfl (by decide) fl_X0_37 (congrArg sv_i ev13) ?_
      exact sv_iret C hr (by decide +kernel) hok (⟨rfl, ⟨_, rfl, ⟨by omega, by omega⟩⟩⟩)

set_option maxHeartbeats 4000000 in
set_option maxRecDepth 100000 in
theorem sf_X0_isFairer (l : Launch) (g : sv_G) (A : Nat → Prop) (ty : Nat → Nat) (σ : Nat → Nat → Int) (hok : sv_ok ty σ) (hTA : ∀ q, ty q ≠ 0 → A q) (hI : sv_inv sp_1 ty σ) (a : Nat) (k_a : ty a = 5) (v : Int) (h_v : 0 ≤ v ∧ v ≤ 9) (w : Int) (h_w : 0 ≤ w ∧ w ≤ 9) : sv_M l yX0_isFairer cX0_isFairer 3 (some .boolean) { frames := 0, cells := 0, slots := 0, locals := 0 } g A ty σ [sv_r a, sv_i v, sv_i w] (fun r σ' => σ = σ' ∧ ∃ rv : Int, r = [sv_i rv] ∧ (0 ≤ rv ∧ rv ≤ 1)) := by
  refine sv_enter (by decide) (Nat.le_of_ble_eq_true rfl) ?_
  intro p e s m args below meth c C hr
  have C : sv_C g A RX0 cX0_isFairer 3 p s m args meth c := C
  have hr : meth.sig.returnType = (some .boolean) := hr
  have hF : sv_ofx [] [] ty σ σ := sv_ofx.rf
  refine sv_same (st2 := []) (lv2 := [(0, sv_r a), (1, sv_i v), (2, sv_i w)]) rfl rfl ?_
  refine sv_go C.1 C.2.1 [(.aload_n 0, 1)] (pc' := 1) (by decide +kernel) rfl (lv' := [(0, sv_r a), (1, sv_i v), (2, sv_i w)]) (st' := [sv_r a]) rfl ?_
  obtain ⟨v1, ev1, kv1⟩ := hI.ref (k := 0) k_a rfl
  refine sv_gf C (index := 9) (ci := 0) (k := 0) (r := (RX0, TX0, 12)) (v := sv_r v1) (by decide +kernel) (by rw [k_a]; rfl) rfl (by decide) fl_X0_9 (congrArg sv_a ev1) ?_
  refine sv_go C.1 C.2.1 [(.iload_n 1, 1)] (pc' := 5) (by decide +kernel) rfl (lv' := [(0, sv_r a), (1, sv_i v), (2, sv_i w)]) (st' := [sv_i v, sv_r v1]) rfl ?_
  refine sv_ia C (n := 10) (by decide +kernel) (by rw [kv1]; rfl) (by decide) (by omega) (by omega) ?_
  obtain ⟨v2, ev2, hv2⟩ := sv_rde hok (a := v1) (k := (v : Int).toNat) (n := 10) (by rw [kv1]; rfl) (by omega)
  rw [ev2]
  refine sv_go C.1 C.2.1 [(.aload_n 0, 1)] (pc' := 7) (by decide +kernel) rfl (lv' := [(0, sv_r a), (1, sv_i v), (2, sv_i w)]) (st' := [sv_r a, sv_i v2]) rfl ?_
  refine sv_gf C (index := 9) (ci := 0) (k := 0) (r := (RX0, TX0, 12)) (v := sv_r v1) (by decide +kernel) (by rw [k_a]; rfl) rfl (by decide) fl_X0_9 (congrArg sv_a ev1) ?_
  refine sv_go C.1 C.2.1 [(.iload_n 2, 1)] (pc' := 11) (by decide +kernel) rfl (lv' := [(0, sv_r a), (1, sv_i v), (2, sv_i w)]) (st' := [sv_i w, sv_r v1, sv_i v2]) rfl ?_
  refine sv_ia C (n := 10) (by decide +kernel) (by rw [kv1]; rfl) (by decide) (by omega) (by omega) ?_
  obtain ⟨v3, ev3, hv3⟩ := sv_rde hok (a := v1) (k := (w : Int).toNat) (n := 10) (by rw [kv1]; rfl) (by omega)
  rw [ev3]
  refine sv_icmp C.1 C.2.1 (cnd := .eq) (off := 24) (tgt := 36) (by decide +kernel) (by decide) ⟨by omega, by omega⟩ ⟨by omega, by omega⟩ (fun (h4 : v2 = v3) => ?_) (fun (h4 : ¬ (v2 = v3)) => ?_)
  · refine sv_go C.1 C.2.1 [(.aload_n 0, 1)] (pc' := 37) (by decide +kernel) rfl (lv' := [(0, sv_r a), (1, sv_i v), (2, sv_i w)]) (st' := [sv_r a]) rfl ?_
    obtain ⟨v5, ev5, kv5⟩ := hI.ref (k := 4) k_a rfl
    refine sv_gf C (index := 18) (ci := 0) (k := 4) (r := (RX0, TX0, 12)) (v := sv_r v5) (by decide +kernel) (by rw [k_a]; rfl) rfl (by decide) fl_X0_18 (congrArg sv_a ev5) ?_
    refine sv_go C.1 C.2.1 [(.iload_n 1, 1)] (pc' := 41) (by decide +kernel) rfl (lv' := [(0, sv_r a), (1, sv_i v), (2, sv_i w)]) (st' := [sv_i v, sv_r v5]) rfl ?_
    refine sv_ia C (n := 10) (by decide +kernel) (by rw [kv5]; rfl) (by decide) (by omega) (by omega) ?_
    obtain ⟨v6, ev6, hv6⟩ := sv_rde hok (a := v5) (k := (v : Int).toNat) (n := 10) (by rw [kv5]; rfl) (by omega)
    rw [ev6]
    refine sv_go C.1 C.2.1 [(.aload_n 0, 1)] (pc' := 43) (by decide +kernel) rfl (lv' := [(0, sv_r a), (1, sv_i v), (2, sv_i w)]) (st' := [sv_r a, sv_i v6]) rfl ?_
    refine sv_gf C (index := 18) (ci := 0) (k := 4) (r := (RX0, TX0, 12)) (v := sv_r v5) (by decide +kernel) (by rw [k_a]; rfl) rfl (by decide) fl_X0_18 (congrArg sv_a ev5) ?_
    refine sv_go C.1 C.2.1 [(.iload_n 2, 1)] (pc' := 47) (by decide +kernel) rfl (lv' := [(0, sv_r a), (1, sv_i v), (2, sv_i w)]) (st' := [sv_i w, sv_r v5, sv_i v6]) rfl ?_
    refine sv_ia C (n := 10) (by decide +kernel) (by rw [kv5]; rfl) (by decide) (by omega) (by omega) ?_
    obtain ⟨v7, ev7, hv7⟩ := sv_rde hok (a := v5) (k := (w : Int).toNat) (n := 10) (by rw [kv5]; rfl) (by omega)
    rw [ev7]
    refine sv_icmp C.1 C.2.1 (cnd := .ge) (off := 7) (tgt := 55) (by decide +kernel) (by decide) ⟨by omega, by omega⟩ ⟨by omega, by omega⟩ (fun (h8 : v7 ≤ v6) => ?_) (fun (h8 : ¬ (v7 ≤ v6)) => ?_)
    · refine sv_go C.1 C.2.1 [(.iconst 0, 1)] (pc' := 56) (by decide +kernel) rfl (lv' := [(0, sv_r a), (1, sv_i v), (2, sv_i w)]) (st' := [sv_i 0]) rfl ?_
      exact sv_zret C hr (by omega) (by decide +kernel) hok (⟨rfl, ⟨_, rfl, ⟨by omega, by omega⟩⟩⟩)
    · refine sv_go C.1 C.2.1 [(.iconst 1, 1)] (pc' := 52) (by decide +kernel) rfl (lv' := [(0, sv_r a), (1, sv_i v), (2, sv_i w)]) (st' := [sv_i 1]) rfl ?_
      refine sv_goto C.1 C.2.1 (off := 4) (tgt := 56) (by decide +kernel) (by decide) ?_
      exact sv_zret C hr (by omega) (by decide +kernel) hok (⟨rfl, ⟨_, rfl, ⟨by omega, by omega⟩⟩⟩)
  · refine sv_go C.1 C.2.1 [(.aload_n 0, 1)] (pc' := 16) (by decide +kernel) rfl (lv' := [(0, sv_r a), (1, sv_i v), (2, sv_i w)]) (st' := [sv_r a]) rfl ?_
    refine sv_gf C (index := 9) (ci := 0) (k := 0) (r := (RX0, TX0, 12)) (v := sv_r v1) (by decide +kernel) (by rw [k_a]; rfl) rfl (by decide) fl_X0_9 (congrArg sv_a ev1) ?_
    refine sv_go C.1 C.2.1 [(.iload_n 1, 1)] (pc' := 20) (by decide +kernel) rfl (lv' := [(0, sv_r a), (1, sv_i v), (2, sv_i w)]) (st' := [sv_i v, sv_r v1]) rfl ?_
    refine sv_ia C (n := 10) (by decide +kernel) (by rw [kv1]; rfl) (by decide) (by omega) (by omega) ?_
    rw [ev2]
    refine sv_go C.1 C.2.1 [(.aload_n 0, 1)] (pc' := 22) (by decide +kernel) rfl (lv' := [(0, sv_r a), (1, sv_i v), (2, sv_i w)]) (st' := [sv_r a, sv_i v2]) rfl ?_
    refine sv_gf C (index := 9) (ci := 0) (k := 0) (r := (RX0, TX0, 12)) (v := sv_r v1) (by decide +kernel) (by rw [k_a]; rfl) rfl (by decide) fl_X0_9 (congrArg sv_a ev1) ?_
    refine sv_go C.1 C.2.1 [(.iload_n 2, 1)] (pc' := 26) (by decide +kernel) rfl (lv' := [(0, sv_r a), (1, sv_i v), (2, sv_i w)]) (st' := [sv_i w, sv_r v1, sv_i v2]) rfl ?_
    refine sv_ia C (n := 10) (by decide +kernel) (by rw [kv1]; rfl) (by decide) (by omega) (by omega) ?_
    rw [ev3]
    refine sv_icmp C.1 C.2.1 (cnd := .ge) (off := 7) (tgt := 34) (by decide +kernel) (by decide) ⟨by omega, by omega⟩ ⟨by omega, by omega⟩ (fun (h9 : v3 ≤ v2) => ?_) (fun (h9 : ¬ (v3 ≤ v2)) => ?_)
    · refine sv_go C.1 C.2.1 [(.iconst 0, 1)] (pc' := 35) (by decide +kernel) rfl (lv' := [(0, sv_r a), (1, sv_i v), (2, sv_i w)]) (st' := [sv_i 0]) rfl ?_
      exact sv_zret C hr (by omega) (by decide +kernel) hok (⟨rfl, ⟨_, rfl, ⟨by omega, by omega⟩⟩⟩)
    · refine sv_go C.1 C.2.1 [(.iconst 1, 1)] (pc' := 31) (by decide +kernel) rfl (lv' := [(0, sv_r a), (1, sv_i v), (2, sv_i w)]) (st' := [sv_i 1]) rfl ?_
      refine sv_goto C.1 C.2.1 (off := 4) (tgt := 35) (by decide +kernel) (by decide) ?_
      exact sv_zret C hr (by omega) (by decide +kernel) hok (⟨rfl, ⟨_, rfl, ⟨by omega, by omega⟩⟩⟩)

theorem ml_X0_67 : Cond.methodLink RX0 67 yX0_isFairer ∈ lw_good := sv_mem 858 (by decide +kernel) rfl
theorem co_X0_isFairer : Cond.code yX0_isFairer cX0_isFairer 3 (some .boolean) ∈ lw_good := sv_mem 861 (by decide +kernel) rfl
theorem in_X0 : Cond.initialized RX0 ∈ lw_good := sv_mem 79 (by decide +kernel) rfl
theorem im_X0_isFairer : Cond.instanceMethod yX0_isFairer ∈ lw_good := sv_mem 860 (by decide +kernel) rfl
theorem se_X0_isFairer : Cond.selects RX0 yX0_isFairer yX0_isFairer ∈ lw_good := sv_mem 34 (by decide +kernel) rfl
set_option maxHeartbeats 4000000 in
set_option maxRecDepth 100000 in
theorem sf_X0_fairest (l : Launch) (g : sv_G) (A : Nat → Prop) (ty : Nat → Nat) (σ : Nat → Nat → Int) (hok : sv_ok ty σ) (hTA : ∀ q, ty q ≠ 0 → A q) (hI : sv_inv sp_1 ty σ) (a : Nat) (k_a : ty a = 5) (v : Int) (h_v : (-2147483648) ≤ v ∧ v ≤ 2147483647) : sv_M l yX0_fairest cX0_fairest 4 (some .int) { frames := 1, cells := 0, slots := 0, locals := 22 } g A ty σ [sv_r a, sv_i v] (fun r σ' => σ = σ' ∧ ∃ rv : Int, r = [sv_i rv] ∧ ((-1) ≤ rv ∧ rv ≤ 9)) := by
  refine sv_enter (by decide) (Nat.le_of_ble_eq_true rfl) ?_
  intro p e s m args below meth c C hr
  have C : sv_C g A RX0 cX0_fairest 4 p s m args meth c := C
  have hr : meth.sig.returnType = (some .int) := hr
  have hF : sv_ofx [] [] ty σ σ := sv_ofx.rf
  refine sv_same (st2 := []) (lv2 := [(0, sv_r a), (1, sv_i v)]) rfl rfl ?_
  refine sv_go C.1 C.2.1 [(.iconst (-1), 1), (.istore_n 2, 1), (.iconst 0, 1), (.istore_n 3, 1)] (pc' := 4) (by decide +kernel) rfl (lv' := [(0, sv_r a), (1, sv_i v), (2, sv_i ((-1))), (3, sv_i 0)]) (st' := []) rfl ?_
  have L2 : ∀ (n : Nat) (Xg1_l2 : Int) (Xg1_l3 : Int), ((-1) ≤ Xg1_l2 ∧ Xg1_l2 ≤ 9) → (0 ≤ Xg1_l3 ∧ Xg1_l3 ≤ 10) → (10 - Xg1_l3) < (n : Int) → sv_E p l e { frames := 1, cells := 0, slots := 0, locals := 22 } s m args below meth c 4 g A ty (fun r σ' => σ = σ' ∧ ∃ rv : Int, r = [sv_i rv] ∧ ((-1) ≤ rv ∧ rv ≤ 9)) σ 4 [(0, sv_r a), (1, sv_i v), (2, sv_i Xg1_l2), (3, sv_i Xg1_l3)] [] := by
    intro n
    induction n with
    | zero => intro Xg1_l2 Xg1_l3 hXg1_l2 hXg1_l3 hmu; exact absurd hmu (by omega)
    | succ n ih3 =>
      intro Xg1_l2 Xg1_l3 hXg1_l2 hXg1_l3 hmu
      refine sv_go C.1 C.2.1 [(.iload_n 3, 1), (.bipush 10, 2)] (pc' := 7) (by decide +kernel) rfl (lv' := [(0, sv_r a), (1, sv_i v), (2, sv_i Xg1_l2), (3, sv_i Xg1_l3)]) (st' := [sv_i 10, sv_i Xg1_l3]) rfl ?_
      refine sv_icmp C.1 C.2.1 (cnd := .ge) (off := 32) (tgt := 39) (by decide +kernel) (by decide) ⟨by omega, by omega⟩ ⟨by omega, by omega⟩ (fun (h4 : 10 ≤ Xg1_l3) => ?_) (fun (h4 : ¬ (10 ≤ Xg1_l3)) => ?_)
      · refine sv_go C.1 C.2.1 [(.iload_n 2, 1)] (pc' := 40) (by decide +kernel) rfl (lv' := [(0, sv_r a), (1, sv_i v), (2, sv_i Xg1_l2), (3, sv_i Xg1_l3)]) (st' := [sv_i Xg1_l2]) rfl ?_
        exact sv_iret C hr (by decide +kernel) hok (⟨rfl, ⟨_, rfl, ⟨by omega, by omega⟩⟩⟩)
      · refine sv_go C.1 C.2.1 [(.iload_n 1, 1), (.iload_n 3, 1), (.ishr, 1), (.iconst 1, 1), (.iand, 1)] (pc' := 15) (by decide +kernel) rfl (lv' := [(0, sv_r a), (1, sv_i v), (2, sv_i Xg1_l2), (3, sv_i Xg1_l3)]) (st' := [sv_i ((Int32.ofInt ((Int32.ofInt v >>> (Int32.ofInt Xg1_l3 &&& 31)).toInt) &&& Int32.ofInt 1).toInt)]) rfl ?_
        have hb5 : (-2147483648) ≤ (Int32.ofInt v >>> (Int32.ofInt Xg1_l3 &&& 31)).toInt ∧ (Int32.ofInt v >>> (Int32.ofInt Xg1_l3 &&& 31)).toInt ≤ 2147483647 := sv_ioin2 (Int32.ofInt v >>> (Int32.ofInt Xg1_l3 &&& 31))
        have hb6 : 0 ≤ (Int32.ofInt ((Int32.ofInt v >>> (Int32.ofInt Xg1_l3 &&& 31)).toInt) &&& Int32.ofInt 1).toInt ∧ (Int32.ofInt ((Int32.ofInt v >>> (Int32.ofInt Xg1_l3 &&& 31)).toInt) &&& Int32.ofInt 1).toInt ≤ 1 := sv_andr ((Int32.ofInt v >>> (Int32.ofInt Xg1_l3 &&& 31)).toInt) 1 (by decide) (by decide)
        have J9 : ∀ (Jg8_l2 : Int), ((-1) ≤ Jg8_l2 ∧ Jg8_l2 ≤ 9) → sv_E p l e { frames := 1, cells := 0, slots := 0, locals := 22 } s m args below meth c 4 g A ty (fun r σ' => σ = σ' ∧ ∃ rv : Int, r = [sv_i rv] ∧ ((-1) ≤ rv ∧ rv ≤ 9)) σ 33 [(0, sv_r a), (1, sv_i v), (2, sv_i Jg8_l2), (3, sv_i Xg1_l3)] [] := by
          intro Jg8_l2 hJg8_l2
          refine sv_go C.1 C.2.1 [(.iinc 3 1, 3)] (pc' := 36) (by decide +kernel) rfl (lv' := [(0, sv_r a), (1, sv_i v), (2, sv_i Jg8_l2), (3, sv_i (Xg1_l3 + 1))]) (st' := []) rfl ?_
          refine sv_goto C.1 C.2.1 (off := (-32)) (tgt := 4) (by decide +kernel) (by decide) ?_
          exact ih3 Jg8_l2 (Xg1_l3 + 1) ⟨by omega, by omega⟩ ⟨by omega, by omega⟩ (by omega)
        refine sv_if C.1 C.2.1 (cnd := .eq) (off := 18) (tgt := 33) (by decide +kernel) (by decide) ⟨by omega, by omega⟩ (fun (h7 : ((Int32.ofInt ((Int32.ofInt v >>> (Int32.ofInt Xg1_l3 &&& 31)).toInt) &&& Int32.ofInt 1).toInt) = 0) => ?_) (fun (h7 : ¬ (((Int32.ofInt ((Int32.ofInt v >>> (Int32.ofInt Xg1_l3 &&& 31)).toInt) &&& Int32.ofInt 1).toInt) = 0)) => ?_)
        · exact J9 Xg1_l2 ⟨by omega, by omega⟩
        · refine sv_go C.1 C.2.1 [(.iload_n 2, 1)] (pc' := 19) (by decide +kernel) rfl (lv' := [(0, sv_r a), (1, sv_i v), (2, sv_i Xg1_l2), (3, sv_i Xg1_l3)]) (st' := [sv_i Xg1_l2]) rfl ?_
          refine sv_if C.1 C.2.1 (cnd := .lt) (off := 12) (tgt := 31) (by decide +kernel) (by decide) ⟨by omega, by omega⟩ (fun (h10 : Xg1_l2 < 0) => ?_) (fun (h10 : ¬ (Xg1_l2 < 0)) => ?_)
          · refine sv_go C.1 C.2.1 [(.iload_n 3, 1), (.istore_n 2, 1)] (pc' := 33) (by decide +kernel) rfl (lv' := [(0, sv_r a), (1, sv_i v), (2, sv_i Xg1_l3), (3, sv_i Xg1_l3)]) (st' := []) rfl ?_
            exact J9 Xg1_l3 ⟨by omega, by omega⟩
          · refine sv_go C.1 C.2.1 [(.aload_n 0, 1), (.iload_n 3, 1), (.iload_n 2, 1)] (pc' := 25) (by decide +kernel) rfl (lv' := [(0, sv_r a), (1, sv_i v), (2, sv_i Xg1_l2), (3, sv_i Xg1_l3)]) (st' := [sv_i Xg1_l2, sv_i Xg1_l3, sv_r a]) rfl ?_
            refine sv_cv C (index := 67) (k := 2) (rest := []) (ci := 0) (r := (RX0, TX0, 12)) (by decide +kernel) (sf_X0_isFairer l g A ty σ hok hTA hI a k_a (Xg1_l3) ⟨by omega, by omega⟩ (Xg1_l2) ⟨by omega, by omega⟩) ⟨co_X0_isFairer, in_X0, ⟨by decide, by decide, by decide +kernel⟩, Nat.le_of_ble_eq_true rfl, Nat.le_of_ble_eq_true rfl⟩ ml_X0_67 im_X0_isFairer se_X0_isFairer (by rw [k_a]; rfl) rfl rfl rfl (Nat.le_of_ble_eq_true rfl) ⟨Nat.zero_le _, Nat.zero_le _⟩ (fun r12 σ13 hpo11 hok14 => ?_)
            obtain ⟨rfl, ⟨vu15, rfl, hvu15⟩⟩ := hpo11
            refine sv_same (st2 := [sv_i vu15]) (lv2 := [(0, sv_r a), (1, sv_i v), (2, sv_i Xg1_l2), (3, sv_i Xg1_l3)]) rfl rfl ?_
            refine sv_if C.1 C.2.1 (cnd := .eq) (off := 5) (tgt := 33) (by decide +kernel) (by decide) ⟨by omega, by omega⟩ (fun (h16 : vu15 = 0) => ?_) (fun (h16 : ¬ (vu15 = 0)) => ?_)
            · exact J9 Xg1_l2 ⟨by omega, by omega⟩
            · refine sv_go C.1 C.2.1 [(.iload_n 3, 1), (.istore_n 2, 1)] (pc' := 33) (by decide +kernel) rfl (lv' := [(0, sv_r a), (1, sv_i v), (2, sv_i Xg1_l3), (3, sv_i Xg1_l3)]) (st' := []) rfl ?_
              exact J9 Xg1_l3 ⟨by omega, by omega⟩
  exact L2 (((10 - 0 : Int)).toNat + 1) ((-1)) 0 ⟨by omega, by omega⟩ ⟨by omega, by omega⟩ (by omega)

theorem fl_X0_21 : Cond.fieldLink RX0 21 "SaintsRoad$Brotherhoods" "yearOf" "[I" ∈ lw_good := sv_mem 325 (by decide +kernel) rfl
theorem fl_X0_24 : Cond.fieldLink RX0 24 "SaintsRoad$Brotherhoods" "dayOf" "[I" ∈ lw_good := sv_mem 326 (by decide +kernel) rfl
theorem fl_X0_27 : Cond.fieldLink RX0 27 "SaintsRoad$Brotherhoods" "feastOf" "[I" ∈ lw_good := sv_mem 327 (by decide +kernel) rfl
theorem fl_X0_30 : Cond.fieldLink RX0 30 "SaintsRoad$Brotherhoods" "carrierOf" "[I" ∈ lw_good := sv_mem 328 (by decide +kernel) rfl
set_option maxHeartbeats 4000000 in
set_option maxRecDepth 100000 in
theorem sf_X0_tellTurn (l : Launch) (g : sv_G) (A : Nat → Prop) (ty : Nat → Nat) (σ : Nat → Nat → Int) (hok : sv_ok ty σ) (hTA : ∀ q, ty q ≠ 0 → A q) (hI : sv_inv sp_1 ty σ) (a : Nat) (k_a : ty a = 5) (v : Int) (h_v : (-2147483648) ≤ v ∧ v ≤ 2147483647) (w : Int) (h_w : (-2147483648) ≤ w ∧ w ≤ 2147483647) : sv_M l yX0_tellTurn cX0_tellTurn 3 (some .int) { frames := 0, cells := 0, slots := 0, locals := 0 } g A ty σ [sv_r a, sv_i v, sv_i w] (fun r σ' => σ = σ' ∧ ∃ rv : Int, r = [sv_i rv] ∧ ((-2147483648) ≤ rv ∧ rv ≤ 2147483647)) := by
  refine sv_enter (by decide) (Nat.le_of_ble_eq_true rfl) ?_
  intro p e s m args below meth c C hr
  have C : sv_C g A RX0 cX0_tellTurn 3 p s m args meth c := C
  have hr : meth.sig.returnType = (some .int) := hr
  have hF : sv_ofx [] [] ty σ σ := sv_ofx.rf
  refine sv_same (st2 := []) (lv2 := [(0, sv_r a), (1, sv_i v), (2, sv_i w)]) rfl rfl ?_
  refine sv_go C.1 C.2.1 [(.iload_n 1, 1)] (pc' := 1) (by decide +kernel) rfl (lv' := [(0, sv_r a), (1, sv_i v), (2, sv_i w)]) (st' := [sv_i v]) rfl ?_
  refine sv_if C.1 C.2.1 (cnd := .lt) (off := 18) (tgt := 19) (by decide +kernel) (by decide) ⟨by omega, by omega⟩ (fun (h1 : v < 0) => ?_) (fun (h1 : ¬ (v < 0)) => ?_)
  · refine sv_go C.1 C.2.1 [(.iconst (-1), 1)] (pc' := 20) (by decide +kernel) rfl (lv' := [(0, sv_r a), (1, sv_i v), (2, sv_i w)]) (st' := [sv_i ((-1))]) rfl ?_
    exact sv_iret C hr (by decide +kernel) hok (⟨rfl, ⟨_, rfl, ⟨by omega, by omega⟩⟩⟩)
  · refine sv_go C.1 C.2.1 [(.iload_n 1, 1), (.aload_n 0, 1)] (pc' := 6) (by decide +kernel) rfl (lv' := [(0, sv_r a), (1, sv_i v), (2, sv_i w)]) (st' := [sv_r a, sv_i v]) rfl ?_
    obtain ⟨v2, ev2, hv2⟩ := sv_rdn hI (k := 2) k_a rfl
    refine sv_gf C (index := 40) (ci := 0) (k := 2) (r := (RX0, TX0, 12)) (v := sv_i v2) (by decide +kernel) (by rw [k_a]; rfl) rfl (by decide) fl_X0_40 (congrArg sv_i ev2) ?_
    refine sv_icmp C.1 C.2.1 (cnd := .ge) (off := 10) (tgt := 19) (by decide +kernel) (by decide) ⟨by omega, by omega⟩ ⟨by omega, by omega⟩ (fun (h3 : v2 ≤ v) => ?_) (fun (h3 : ¬ (v2 ≤ v)) => ?_)
    · refine sv_go C.1 C.2.1 [(.iconst (-1), 1)] (pc' := 20) (by decide +kernel) rfl (lv' := [(0, sv_r a), (1, sv_i v), (2, sv_i w)]) (st' := [sv_i ((-1))]) rfl ?_
      exact sv_iret C hr (by decide +kernel) hok (⟨rfl, ⟨_, rfl, ⟨by omega, by omega⟩⟩⟩)
    · refine sv_go C.1 C.2.1 [(.iload_n 1, 1), (.sipush 600, 3)] (pc' := 16) (by decide +kernel) rfl (lv' := [(0, sv_r a), (1, sv_i v), (2, sv_i w)]) (st' := [sv_i 600, sv_i v]) rfl ?_
      refine sv_icmp C.1 C.2.1 (cnd := .lt) (off := 5) (tgt := 21) (by decide +kernel) (by decide) ⟨by omega, by omega⟩ ⟨by omega, by omega⟩ (fun (h4 : v < 600) => ?_) (fun (h4 : ¬ (v < 600)) => ?_)
      · refine sv_go C.1 C.2.1 [(.iload_n 2, 1)] (pc' := 22) (by decide +kernel) rfl (lv' := [(0, sv_r a), (1, sv_i v), (2, sv_i w)]) (st' := [sv_i w]) rfl ?_
        rcases (show w = 0 ∨ w = 1 ∨ w = 2 ∨ w = 3 ∨ (w ≠ 0 ∧ w ≠ 1 ∧ w ≠ 2 ∧ w ≠ 3) by omega) with h5 | h5 | h5 | h5 | h5
        · refine sv_tsI C.1 C.2.1 (dflt := 58) (lo := 0) (hi := 3) (offs := #[30, 37, 44, 51]) (len := 30) (off := 30) (tgt := 52) (by decide +kernel) 0 h5 (by decide) rfl (by decide) ?_
          refine sv_go C.1 C.2.1 [(.aload_n 0, 1)] (pc' := 53) (by decide +kernel) rfl (lv' := [(0, sv_r a), (1, sv_i v), (2, sv_i w)]) (st' := [sv_r a]) rfl ?_
          obtain ⟨v6, ev6, kv6⟩ := hI.ref (k := 5) k_a rfl
          refine sv_gf C (index := 21) (ci := 0) (k := 5) (r := (RX0, TX0, 12)) (v := sv_r v6) (by decide +kernel) (by rw [k_a]; rfl) rfl (by decide) fl_X0_21 (congrArg sv_a ev6) ?_
          refine sv_go C.1 C.2.1 [(.iload_n 1, 1)] (pc' := 57) (by decide +kernel) rfl (lv' := [(0, sv_r a), (1, sv_i v), (2, sv_i w)]) (st' := [sv_i v, sv_r v6]) rfl ?_
          refine sv_ia C (n := 600) (by decide +kernel) (by rw [kv6]; rfl) (by decide) (by omega) (by omega) ?_
          obtain ⟨v7, ev7, hv7⟩ := sv_rde hok (a := v6) (k := (v : Int).toNat) (n := 600) (by rw [kv6]; rfl) (by omega)
          rw [ev7]
          exact sv_iret C hr (by decide +kernel) hok (⟨rfl, ⟨_, rfl, ⟨by omega, by omega⟩⟩⟩)
        · refine sv_tsI C.1 C.2.1 (dflt := 58) (lo := 0) (hi := 3) (offs := #[30, 37, 44, 51]) (len := 30) (off := 37) (tgt := 59) (by decide +kernel) 1 h5 (by decide) rfl (by decide) ?_
          refine sv_go C.1 C.2.1 [(.aload_n 0, 1)] (pc' := 60) (by decide +kernel) rfl (lv' := [(0, sv_r a), (1, sv_i v), (2, sv_i w)]) (st' := [sv_r a]) rfl ?_
          obtain ⟨v8, ev8, kv8⟩ := hI.ref (k := 6) k_a rfl
          refine sv_gf C (index := 24) (ci := 0) (k := 6) (r := (RX0, TX0, 12)) (v := sv_r v8) (by decide +kernel) (by rw [k_a]; rfl) rfl (by decide) fl_X0_24 (congrArg sv_a ev8) ?_
          refine sv_go C.1 C.2.1 [(.iload_n 1, 1)] (pc' := 64) (by decide +kernel) rfl (lv' := [(0, sv_r a), (1, sv_i v), (2, sv_i w)]) (st' := [sv_i v, sv_r v8]) rfl ?_
          refine sv_ia C (n := 600) (by decide +kernel) (by rw [kv8]; rfl) (by decide) (by omega) (by omega) ?_
          obtain ⟨v9, ev9, hv9⟩ := sv_rde hok (a := v8) (k := (v : Int).toNat) (n := 600) (by rw [kv8]; rfl) (by omega)
          rw [ev9]
          exact sv_iret C hr (by decide +kernel) hok (⟨rfl, ⟨_, rfl, ⟨by omega, by omega⟩⟩⟩)
        · refine sv_tsI C.1 C.2.1 (dflt := 58) (lo := 0) (hi := 3) (offs := #[30, 37, 44, 51]) (len := 30) (off := 44) (tgt := 66) (by decide +kernel) 2 h5 (by decide) rfl (by decide) ?_
          refine sv_go C.1 C.2.1 [(.aload_n 0, 1)] (pc' := 67) (by decide +kernel) rfl (lv' := [(0, sv_r a), (1, sv_i v), (2, sv_i w)]) (st' := [sv_r a]) rfl ?_
          obtain ⟨v10, ev10, kv10⟩ := hI.ref (k := 7) k_a rfl
          refine sv_gf C (index := 27) (ci := 0) (k := 7) (r := (RX0, TX0, 12)) (v := sv_r v10) (by decide +kernel) (by rw [k_a]; rfl) rfl (by decide) fl_X0_27 (congrArg sv_a ev10) ?_
          refine sv_go C.1 C.2.1 [(.iload_n 1, 1)] (pc' := 71) (by decide +kernel) rfl (lv' := [(0, sv_r a), (1, sv_i v), (2, sv_i w)]) (st' := [sv_i v, sv_r v10]) rfl ?_
          refine sv_ia C (n := 600) (by decide +kernel) (by rw [kv10]; rfl) (by decide) (by omega) (by omega) ?_
          obtain ⟨v11, ev11, hv11⟩ := sv_rde hok (a := v10) (k := (v : Int).toNat) (n := 600) (by rw [kv10]; rfl) (by omega)
          rw [ev11]
          exact sv_iret C hr (by decide +kernel) hok (⟨rfl, ⟨_, rfl, ⟨by omega, by omega⟩⟩⟩)
        · refine sv_tsI C.1 C.2.1 (dflt := 58) (lo := 0) (hi := 3) (offs := #[30, 37, 44, 51]) (len := 30) (off := 51) (tgt := 73) (by decide +kernel) 3 h5 (by decide) rfl (by decide) ?_
          refine sv_go C.1 C.2.1 [(.aload_n 0, 1)] (pc' := 74) (by decide +kernel) rfl (lv' := [(0, sv_r a), (1, sv_i v), (2, sv_i w)]) (st' := [sv_r a]) rfl ?_
          obtain ⟨v12, ev12, kv12⟩ := hI.ref (k := 8) k_a rfl
          refine sv_gf C (index := 30) (ci := 0) (k := 8) (r := (RX0, TX0, 12)) (v := sv_r v12) (by decide +kernel) (by rw [k_a]; rfl) rfl (by decide) fl_X0_30 (congrArg sv_a ev12) ?_
          refine sv_go C.1 C.2.1 [(.iload_n 1, 1)] (pc' := 78) (by decide +kernel) rfl (lv' := [(0, sv_r a), (1, sv_i v), (2, sv_i w)]) (st' := [sv_i v, sv_r v12]) rfl ?_
          refine sv_ia C (n := 600) (by decide +kernel) (by rw [kv12]; rfl) (by decide) (by omega) (by omega) ?_
          obtain ⟨v13, ev13, hv13⟩ := sv_rde hok (a := v12) (k := (v : Int).toNat) (n := 600) (by rw [kv12]; rfl) (by omega)
          rw [ev13]
          exact sv_iret C hr (by decide +kernel) hok (⟨rfl, ⟨_, rfl, ⟨by omega, by omega⟩⟩⟩)
        · refine sv_tsO C.1 C.2.1 (dflt := 58) (lo := 0) (hi := 3) (offs := #[30, 37, 44, 51]) (len := 30) (tgt := 80) (by decide +kernel) ⟨by omega, by omega⟩ (by omega) (by decide) ?_
          refine sv_go C.1 C.2.1 [(.iconst (-1), 1)] (pc' := 81) (by decide +kernel) rfl (lv' := [(0, sv_r a), (1, sv_i v), (2, sv_i w)]) (st' := [sv_i ((-1))]) rfl ?_
          exact sv_iret C hr (by decide +kernel) hok (⟨rfl, ⟨_, rfl, ⟨by omega, by omega⟩⟩⟩)
      · refine sv_go C.1 C.2.1 [(.iconst (-1), 1)] (pc' := 20) (by decide +kernel) rfl (lv' := [(0, sv_r a), (1, sv_i v), (2, sv_i w)]) (st' := [sv_i ((-1))]) rfl ?_
        exact sv_iret C hr (by decide +kernel) hok (⟨rfl, ⟨_, rfl, ⟨by omega, by omega⟩⟩⟩)

theorem fl_X5_18 : Cond.fieldLink RX5 18 "SaintsRoad$Procession" "size" "I" ∈ lw_good := sv_mem 370 (by decide +kernel) rfl
theorem fl_X5_9 : Cond.fieldLink RX5 9 "SaintsRoad$Procession" "corners" "[I" ∈ lw_good := sv_mem 375 (by decide +kernel) rfl
theorem fl_X5_15 : Cond.fieldLink RX5 15 "SaintsRoad$Procession" "reached" "[I" ∈ lw_good := sv_mem 376 (by decide +kernel) rfl
theorem fl_X5_22 : Cond.fieldLink RX5 22 "SaintsRoad$Procession" "beginning" "I" ∈ lw_good := sv_mem 373 (by decide +kernel) rfl
theorem fl_X5_25 : Cond.fieldLink RX5 25 "SaintsRoad$Procession" "tail" "I" ∈ lw_good := sv_mem 377 (by decide +kernel) rfl
set_option maxHeartbeats 4000000 in
set_option maxRecDepth 100000 in
theorem sf_X5_start (l : Launch) (g : sv_G) (A : Nat → Prop) (ty : Nat → Nat) (σ : Nat → Nat → Int) (hok : sv_ok ty σ) (hTA : ∀ q, ty q ≠ 0 → A q) (hI : sv_inv sp_1 ty σ) (a : Nat) (k_a : ty a = 9) (v : Int) (h_v : 0 ≤ v ∧ v ≤ 19) (w : Int) (h_w : 0 ≤ w ∧ w ≤ 1440) (x : Int) (h_x : 0 ≤ x ∧ x ≤ 30) : sv_M l yX5_start cX5_start 4 none { frames := 0, cells := 0, slots := 0, locals := 0 } g A ty σ [sv_r a, sv_i v, sv_i w, sv_i x] (fun r σ' => (r = []) ∧ sv_inv sp_1 ty σ' ∧ sv_ofx [(9, 0), (9, 1), (9, 4)] [40, 41] ty σ σ') := by
  refine sv_enter (by decide) (Nat.le_of_ble_eq_true rfl) ?_
  intro p e s m args below meth c C hr
  have C : sv_C g A RX5 cX5_start 4 p s m args meth c := C
  have hr : meth.sig.returnType = none := hr
  have hF : sv_ofx [(9, 0), (9, 1), (9, 4)] [40, 41] ty σ σ := sv_ofx.rf
  refine sv_same (st2 := []) (lv2 := [(0, sv_r a), (1, sv_i v), (2, sv_i w), (3, sv_i x)]) rfl rfl ?_
  refine sv_go C.1 C.2.1 [(.aload_n 0, 1), (.iconst 1, 1)] (pc' := 2) (by decide +kernel) rfl (lv' := [(0, sv_r a), (1, sv_i v), (2, sv_i w), (3, sv_i x)]) (st' := [sv_i 1, sv_r a]) rfl ?_
  refine sv_pf C (index := 18) (ci := 4) (k := 0) (r := (RX5, TX5, 5)) (z := 1) (by decide +kernel) (by rw [k_a]; rfl) rfl (by decide) rfl fl_X5_18 rfl (Or.inl rfl) ⟨by omega, by omega⟩ (hTA _ (by rw [k_a]; decide)) hok (fun hok1 => ?_)
  have hI3 := hI.up (a := a) (k := 0) (z := 1) (by rw [k_a]; exact ⟨by omega, by omega⟩)
  have hF4 := hF.up (a := a) (k := 0) (z := 1) (Or.inr (by rw [k_a]; decide))
  generalize eσ2 : sv_up σ a 0 1 = σ2 at hok1 hI3 hF4 ⊢
  have t5 : σ2 a 0 = 1 := by rw [← eσ2]; exact sv_up_s _ _ _ _
  refine sv_go C.1 C.2.1 [(.aload_n 0, 1)] (pc' := 6) (by decide +kernel) rfl (lv' := [(0, sv_r a), (1, sv_i v), (2, sv_i w), (3, sv_i x)]) (st' := [sv_r a]) rfl ?_
  obtain ⟨v6, ev6, kv6⟩ := hI3.ref (k := 2) k_a rfl
  refine sv_gf C (index := 9) (ci := 4) (k := 2) (r := (RX5, TX5, 5)) (v := sv_r v6) (by decide +kernel) (by rw [k_a]; rfl) rfl (by decide) fl_X5_9 (congrArg sv_a ev6) ?_
  refine sv_go C.1 C.2.1 [(.iconst 0, 1), (.iload_n 1, 1)] (pc' := 11) (by decide +kernel) rfl (lv' := [(0, sv_r a), (1, sv_i v), (2, sv_i w), (3, sv_i x)]) (st' := [sv_i v, sv_i 0, sv_r v6]) rfl ?_
  refine sv_is C (n := 12) (by decide +kernel) (by rw [kv6]; rfl) (by decide) (by omega) (by omega) ⟨by omega, by omega⟩ (hTA _ (by rw [kv6]; decide)) hok1 (fun hok7 => ?_)
  have hI9 := hI3.up (a := v6) (k := (0 : Int).toNat) (z := v) (by rw [kv6]; exact ⟨by omega, by omega⟩)
  have hF10 := hF4.up (a := v6) (k := (0 : Int).toNat) (z := v) (Or.inl (by rw [kv6]; decide))
  generalize eσ8 : sv_up σ2 v6 (0 : Int).toNat v = σ8 at hok7 hI9 hF10 ⊢
  have t11 : σ8 a 0 = 1 := by rw [← eσ8, sv_up_a (sv_ne k_a kv6 (by decide))]; exact t5
  have t12 : σ8 a 2 = (v6 : Int) + 1 := by rw [← eσ8, sv_up_a (sv_ne k_a kv6 (by decide))]; exact ev6
  have t13 : σ8 v6 (0 : Int).toNat = v := by rw [← eσ8]; exact sv_up_s _ _ _ _
  refine sv_go C.1 C.2.1 [(.aload_n 0, 1)] (pc' := 13) (by decide +kernel) rfl (lv' := [(0, sv_r a), (1, sv_i v), (2, sv_i w), (3, sv_i x)]) (st' := [sv_r a]) rfl ?_
  obtain ⟨v14, ev14, kv14⟩ := hI9.ref (k := 3) k_a rfl
  refine sv_gf C (index := 15) (ci := 4) (k := 3) (r := (RX5, TX5, 5)) (v := sv_r v14) (by decide +kernel) (by rw [k_a]; rfl) rfl (by decide) fl_X5_15 (congrArg sv_a ev14) ?_
  refine sv_go C.1 C.2.1 [(.iconst 0, 1), (.iconst 0, 1)] (pc' := 18) (by decide +kernel) rfl (lv' := [(0, sv_r a), (1, sv_i v), (2, sv_i w), (3, sv_i x)]) (st' := [sv_i 0, sv_i 0, sv_r v14]) rfl ?_
  refine sv_is C (n := 12) (by decide +kernel) (by rw [kv14]; rfl) (by decide) (by omega) (by omega) ⟨by omega, by omega⟩ (hTA _ (by rw [kv14]; decide)) hok7 (fun hok15 => ?_)
  have hI17 := hI9.up (a := v14) (k := (0 : Int).toNat) (z := 0) (by rw [kv14]; exact trivial)
  have hF18 := hF10.up (a := v14) (k := (0 : Int).toNat) (z := 0) (Or.inl (by rw [kv14]; decide))
  generalize eσ16 : sv_up σ8 v14 (0 : Int).toNat 0 = σ16 at hok15 hI17 hF18 ⊢
  have t19 : σ16 a 0 = 1 := by rw [← eσ16, sv_up_a (sv_ne k_a kv14 (by decide))]; exact t11
  have t20 : σ16 a 2 = (v6 : Int) + 1 := by rw [← eσ16, sv_up_a (sv_ne k_a kv14 (by decide))]; exact t12
  have t21 : σ16 v6 (0 : Int).toNat = v := by rw [← eσ16, sv_up_a (sv_ne kv6 kv14 (by decide))]; exact t13
  have t22 : σ16 a 3 = (v14 : Int) + 1 := by rw [← eσ16, sv_up_a (sv_ne k_a kv14 (by decide))]; exact ev14
  have t23 : σ16 v14 (0 : Int).toNat = 0 := by rw [← eσ16]; exact sv_up_s _ _ _ _
  refine sv_go C.1 C.2.1 [(.aload_n 0, 1), (.iload_n 2, 1)] (pc' := 21) (by decide +kernel) rfl (lv' := [(0, sv_r a), (1, sv_i v), (2, sv_i w), (3, sv_i x)]) (st' := [sv_i w, sv_r a]) rfl ?_
  refine sv_pf C (index := 22) (ci := 4) (k := 1) (r := (RX5, TX5, 5)) (z := w) (by decide +kernel) (by rw [k_a]; rfl) rfl (by decide) rfl fl_X5_22 rfl (Or.inl rfl) ⟨by omega, by omega⟩ (hTA _ (by rw [k_a]; decide)) hok15 (fun hok24 => ?_)
  have hI26 := hI17.up (a := a) (k := 1) (z := w) (by rw [k_a]; exact ⟨by omega, by omega⟩)
  have hF27 := hF18.up (a := a) (k := 1) (z := w) (Or.inr (by rw [k_a]; decide))
  generalize eσ25 : sv_up σ16 a 1 w = σ25 at hok24 hI26 hF27 ⊢
  have t28 : σ25 a 0 = 1 := by rw [← eσ25, sv_up_k (by decide)]; exact t19
  have t29 : σ25 a 2 = (v6 : Int) + 1 := by rw [← eσ25, sv_up_k (by decide)]; exact t20
  have t30 : σ25 v6 (0 : Int).toNat = v := by rw [← eσ25, sv_up_a (sv_ne kv6 k_a (by decide))]; exact t21
  have t31 : σ25 a 3 = (v14 : Int) + 1 := by rw [← eσ25, sv_up_k (by decide)]; exact t22
  have t32 : σ25 v14 (0 : Int).toNat = 0 := by rw [← eσ25, sv_up_a (sv_ne kv14 k_a (by decide))]; exact t23
  have t33 : σ25 a 1 = w := by rw [← eσ25]; exact sv_up_s _ _ _ _
  refine sv_go C.1 C.2.1 [(.aload_n 0, 1), (.iload_n 3, 1)] (pc' := 26) (by decide +kernel) rfl (lv' := [(0, sv_r a), (1, sv_i v), (2, sv_i w), (3, sv_i x)]) (st' := [sv_i x, sv_r a]) rfl ?_
  refine sv_pf C (index := 25) (ci := 4) (k := 4) (r := (RX5, TX5, 5)) (z := x) (by decide +kernel) (by rw [k_a]; rfl) rfl (by decide) rfl fl_X5_25 rfl (Or.inl rfl) ⟨by omega, by omega⟩ (hTA _ (by rw [k_a]; decide)) hok24 (fun hok34 => ?_)
  have hI36 := hI26.up (a := a) (k := 4) (z := x) (by rw [k_a]; exact ⟨by omega, by omega⟩)
  have hF37 := hF27.up (a := a) (k := 4) (z := x) (Or.inr (by rw [k_a]; decide))
  generalize eσ35 : sv_up σ25 a 4 x = σ35 at hok34 hI36 hF37 ⊢
  have t38 : σ35 a 0 = 1 := by rw [← eσ35, sv_up_k (by decide)]; exact t28
  have t39 : σ35 a 2 = (v6 : Int) + 1 := by rw [← eσ35, sv_up_k (by decide)]; exact t29
  have t40 : σ35 v6 (0 : Int).toNat = v := by rw [← eσ35, sv_up_a (sv_ne kv6 k_a (by decide))]; exact t30
  have t41 : σ35 a 3 = (v14 : Int) + 1 := by rw [← eσ35, sv_up_k (by decide)]; exact t31
  have t42 : σ35 v14 (0 : Int).toNat = 0 := by rw [← eσ35, sv_up_a (sv_ne kv14 k_a (by decide))]; exact t32
  have t43 : σ35 a 1 = w := by rw [← eσ35, sv_up_k (by decide)]; exact t33
  have t44 : σ35 a 4 = x := by rw [← eσ35]; exact sv_up_s _ _ _ _
  exact sv_vret C hr (by decide +kernel) hok34 (⟨rfl, hI36, hF37⟩)

set_option maxHeartbeats 4000000 in
set_option maxRecDepth 100000 in
theorem sf_X5_lastCorner (l : Launch) (g : sv_G) (A : Nat → Prop) (ty : Nat → Nat) (σ : Nat → Nat → Int) (hok : sv_ok ty σ) (hTA : ∀ q, ty q ≠ 0 → A q) (hI : sv_inv sp_1 ty σ) (a : Nat) (k_a : ty a = 9) : sv_M l yX5_lastCorner cX5_lastCorner 1 (some .int) { frames := 0, cells := 0, slots := 0, locals := 0 } g A ty σ [sv_r a] (fun r σ' => σ = σ' ∧ ∃ rv : Int, r = [sv_i rv] ∧ ((-1) ≤ rv ∧ rv ≤ 19)) := by
  refine sv_enter (by decide) (Nat.le_of_ble_eq_true rfl) ?_
  intro p e s m args below meth c C hr
  have C : sv_C g A RX5 cX5_lastCorner 1 p s m args meth c := C
  have hr : meth.sig.returnType = (some .int) := hr
  have hF : sv_ofx [] [] ty σ σ := sv_ofx.rf
  refine sv_same (st2 := []) (lv2 := [(0, sv_r a)]) rfl rfl ?_
  refine sv_go C.1 C.2.1 [(.aload_n 0, 1)] (pc' := 1) (by decide +kernel) rfl (lv' := [(0, sv_r a)]) (st' := [sv_r a]) rfl ?_
  obtain ⟨v1, ev1, hv1⟩ := sv_rdn hI (k := 0) k_a rfl
  refine sv_gf C (index := 18) (ci := 4) (k := 0) (r := (RX5, TX5, 5)) (v := sv_i v1) (by decide +kernel) (by rw [k_a]; rfl) rfl (by decide) fl_X5_18 (congrArg sv_i ev1) ?_
  refine sv_go C.1 C.2.1 [(.iconst 1, 1)] (pc' := 5) (by decide +kernel) rfl (lv' := [(0, sv_r a)]) (st' := [sv_i 1, sv_i v1]) rfl ?_
  refine sv_icmp C.1 C.2.1 (cnd := .lt) (off := 26) (tgt := 31) (by decide +kernel) (by decide) ⟨by omega, by omega⟩ ⟨by omega, by omega⟩ (fun (h2 : v1 < 1) => ?_) (fun (h2 : ¬ (v1 < 1)) => ?_)
  · refine sv_go C.1 C.2.1 [(.iconst (-1), 1)] (pc' := 32) (by decide +kernel) rfl (lv' := [(0, sv_r a)]) (st' := [sv_i ((-1))]) rfl ?_
    exact sv_iret C hr (by decide +kernel) hok (⟨rfl, ⟨_, rfl, ⟨by omega, by omega⟩⟩⟩)
  · refine sv_go C.1 C.2.1 [(.aload_n 0, 1)] (pc' := 9) (by decide +kernel) rfl (lv' := [(0, sv_r a)]) (st' := [sv_r a]) rfl ?_
    refine sv_gf C (index := 18) (ci := 4) (k := 0) (r := (RX5, TX5, 5)) (v := sv_i v1) (by decide +kernel) (by rw [k_a]; rfl) rfl (by decide) fl_X5_18 (congrArg sv_i ev1) ?_
    refine sv_go C.1 C.2.1 [(.bipush 12, 2)] (pc' := 14) (by decide +kernel) rfl (lv' := [(0, sv_r a)]) (st' := [sv_i 12, sv_i v1]) rfl ?_
    refine sv_icmp_f C.1 C.2.1 (cnd := .gt) (off := 17) (tgt := 31) (by decide +kernel) (by decide) ⟨by omega, by omega⟩ ⟨by omega, by omega⟩ (show ¬ (12 < v1) by omega) ?_
    refine sv_go C.1 C.2.1 [(.aload_n 0, 1)] (pc' := 18) (by decide +kernel) rfl (lv' := [(0, sv_r a)]) (st' := [sv_r a]) rfl ?_
    obtain ⟨v3, ev3, kv3⟩ := hI.ref (k := 2) k_a rfl
    refine sv_gf C (index := 9) (ci := 4) (k := 2) (r := (RX5, TX5, 5)) (v := sv_r v3) (by decide +kernel) (by rw [k_a]; rfl) rfl (by decide) fl_X5_9 (congrArg sv_a ev3) ?_
    refine sv_go C.1 C.2.1 [(.aload_n 0, 1)] (pc' := 22) (by decide +kernel) rfl (lv' := [(0, sv_r a)]) (st' := [sv_r a, sv_r v3]) rfl ?_
    refine sv_gf C (index := 18) (ci := 4) (k := 0) (r := (RX5, TX5, 5)) (v := sv_i v1) (by decide +kernel) (by rw [k_a]; rfl) rfl (by decide) fl_X5_18 (congrArg sv_i ev1) ?_
    refine sv_go C.1 C.2.1 [(.iconst 1, 1), (.isub, 1)] (pc' := 27) (by decide +kernel) rfl (lv' := [(0, sv_r a)]) (st' := [sv_i (v1 - 1), sv_r v3]) rfl ?_
    refine sv_ia C (n := 12) (by decide +kernel) (by rw [kv3]; rfl) (by decide) (by omega) (by omega) ?_
    obtain ⟨v4, ev4, hv4⟩ := sv_rdn hI (k := (v1 - 1 : Int).toNat) kv3 rfl
    rw [ev4]
    refine sv_goto C.1 C.2.1 (off := 4) (tgt := 32) (by decide +kernel) (by decide) ?_
    exact sv_iret C hr (by decide +kernel) hok (⟨rfl, ⟨_, rfl, ⟨by omega, by omega⟩⟩⟩)

set_option maxHeartbeats 4000000 in
set_option maxRecDepth 100000 in
theorem sf_X5_goOn (l : Launch) (g : sv_G) (A : Nat → Prop) (ty : Nat → Nat) (σ : Nat → Nat → Int) (hok : sv_ok ty σ) (hTA : ∀ q, ty q ≠ 0 → A q) (hI : sv_inv sp_1 ty σ) (a : Nat) (k_a : ty a = 9) (v : Int) (h_v : 0 ≤ v ∧ v ≤ 19) (w : Int) (h_w : (-2147483648) ≤ w ∧ w ≤ 2147483647) : sv_M l yX5_goOn cX5_goOn 3 (some .boolean) { frames := 0, cells := 0, slots := 0, locals := 0 } g A ty σ [sv_r a, sv_i v, sv_i w] (fun r σ' => (∃ rv : Int, r = [sv_i rv] ∧ (0 ≤ rv ∧ rv ≤ 1)) ∧ sv_inv sp_1 ty σ' ∧ sv_ofx [(9, 0)] [40, 41] ty σ σ') := by
  refine sv_enter (by decide) (Nat.le_of_ble_eq_true rfl) ?_
  intro p e s m args below meth c C hr
  have C : sv_C g A RX5 cX5_goOn 3 p s m args meth c := C
  have hr : meth.sig.returnType = (some .boolean) := hr
  have hF : sv_ofx [(9, 0)] [40, 41] ty σ σ := sv_ofx.rf
  refine sv_same (st2 := []) (lv2 := [(0, sv_r a), (1, sv_i v), (2, sv_i w)]) rfl rfl ?_
  refine sv_go C.1 C.2.1 [(.aload_n 0, 1)] (pc' := 1) (by decide +kernel) rfl (lv' := [(0, sv_r a), (1, sv_i v), (2, sv_i w)]) (st' := [sv_r a]) rfl ?_
  obtain ⟨v1, ev1, hv1⟩ := sv_rdn hI (k := 0) k_a rfl
  refine sv_gf C (index := 18) (ci := 4) (k := 0) (r := (RX5, TX5, 5)) (v := sv_i v1) (by decide +kernel) (by rw [k_a]; rfl) rfl (by decide) fl_X5_18 (congrArg sv_i ev1) ?_
  refine sv_go C.1 C.2.1 [(.iconst 1, 1)] (pc' := 5) (by decide +kernel) rfl (lv' := [(0, sv_r a), (1, sv_i v), (2, sv_i w)]) (st' := [sv_i 1, sv_i v1]) rfl ?_
  refine sv_icmp C.1 C.2.1 (cnd := .lt) (off := 12) (tgt := 17) (by decide +kernel) (by decide) ⟨by omega, by omega⟩ ⟨by omega, by omega⟩ (fun (h2 : v1 < 1) => ?_) (fun (h2 : ¬ (v1 < 1)) => ?_)
  · refine sv_go C.1 C.2.1 [(.iconst 0, 1)] (pc' := 18) (by decide +kernel) rfl (lv' := [(0, sv_r a), (1, sv_i v), (2, sv_i w)]) (st' := [sv_i 0]) rfl ?_
    exact sv_zret C hr (by omega) (by decide +kernel) hok (⟨⟨_, rfl, ⟨by omega, by omega⟩⟩, hI, hF⟩)
  · refine sv_go C.1 C.2.1 [(.aload_n 0, 1)] (pc' := 9) (by decide +kernel) rfl (lv' := [(0, sv_r a), (1, sv_i v), (2, sv_i w)]) (st' := [sv_r a]) rfl ?_
    refine sv_gf C (index := 18) (ci := 4) (k := 0) (r := (RX5, TX5, 5)) (v := sv_i v1) (by decide +kernel) (by rw [k_a]; rfl) rfl (by decide) fl_X5_18 (congrArg sv_i ev1) ?_
    refine sv_go C.1 C.2.1 [(.bipush 12, 2)] (pc' := 14) (by decide +kernel) rfl (lv' := [(0, sv_r a), (1, sv_i v), (2, sv_i w)]) (st' := [sv_i 12, sv_i v1]) rfl ?_
    refine sv_icmp C.1 C.2.1 (cnd := .lt) (off := 5) (tgt := 19) (by decide +kernel) (by decide) ⟨by omega, by omega⟩ ⟨by omega, by omega⟩ (fun (h3 : v1 < 12) => ?_) (fun (h3 : ¬ (v1 < 12)) => ?_)
    · refine sv_go C.1 C.2.1 [(.aload_n 0, 1)] (pc' := 20) (by decide +kernel) rfl (lv' := [(0, sv_r a), (1, sv_i v), (2, sv_i w)]) (st' := [sv_r a]) rfl ?_
      obtain ⟨v4, ev4, kv4⟩ := hI.ref (k := 2) k_a rfl
      refine sv_gf C (index := 9) (ci := 4) (k := 2) (r := (RX5, TX5, 5)) (v := sv_r v4) (by decide +kernel) (by rw [k_a]; rfl) rfl (by decide) fl_X5_9 (congrArg sv_a ev4) ?_
      refine sv_go C.1 C.2.1 [(.aload_n 0, 1)] (pc' := 24) (by decide +kernel) rfl (lv' := [(0, sv_r a), (1, sv_i v), (2, sv_i w)]) (st' := [sv_r a, sv_r v4]) rfl ?_
      refine sv_gf C (index := 18) (ci := 4) (k := 0) (r := (RX5, TX5, 5)) (v := sv_i v1) (by decide +kernel) (by rw [k_a]; rfl) rfl (by decide) fl_X5_18 (congrArg sv_i ev1) ?_
      refine sv_go C.1 C.2.1 [(.iload_n 1, 1)] (pc' := 28) (by decide +kernel) rfl (lv' := [(0, sv_r a), (1, sv_i v), (2, sv_i w)]) (st' := [sv_i v, sv_i v1, sv_r v4]) rfl ?_
      refine sv_is C (n := 12) (by decide +kernel) (by rw [kv4]; rfl) (by decide) (by omega) (by omega) ⟨by omega, by omega⟩ (hTA _ (by rw [kv4]; decide)) hok (fun hok5 => ?_)
      have hI7 := hI.up (a := v4) (k := (v1 : Int).toNat) (z := v) (by rw [kv4]; exact ⟨by omega, by omega⟩)
      have hF8 := hF.up (a := v4) (k := (v1 : Int).toNat) (z := v) (Or.inl (by rw [kv4]; decide))
      generalize eσ6 : sv_up σ v4 (v1 : Int).toNat v = σ6 at hok5 hI7 hF8 ⊢
      have t9 : σ6 a 0 = v1 := by rw [← eσ6, sv_up_a (sv_ne k_a kv4 (by decide))]; exact ev1
      have t10 : σ6 a 2 = (v4 : Int) + 1 := by rw [← eσ6, sv_up_a (sv_ne k_a kv4 (by decide))]; exact ev4
      have t11 : σ6 v4 (v1 : Int).toNat = v := by rw [← eσ6]; exact sv_up_s _ _ _ _
      refine sv_go C.1 C.2.1 [(.aload_n 0, 1)] (pc' := 30) (by decide +kernel) rfl (lv' := [(0, sv_r a), (1, sv_i v), (2, sv_i w)]) (st' := [sv_r a]) rfl ?_
      obtain ⟨v12, ev12, kv12⟩ := hI7.ref (k := 3) k_a rfl
      refine sv_gf C (index := 15) (ci := 4) (k := 3) (r := (RX5, TX5, 5)) (v := sv_r v12) (by decide +kernel) (by rw [k_a]; rfl) rfl (by decide) fl_X5_15 (congrArg sv_a ev12) ?_
      refine sv_go C.1 C.2.1 [(.aload_n 0, 1)] (pc' := 34) (by decide +kernel) rfl (lv' := [(0, sv_r a), (1, sv_i v), (2, sv_i w)]) (st' := [sv_r a, sv_r v12]) rfl ?_
      refine sv_gf C (index := 18) (ci := 4) (k := 0) (r := (RX5, TX5, 5)) (v := sv_i v1) (by decide +kernel) (by rw [k_a]; rfl) rfl (by decide) fl_X5_18 (congrArg sv_i t9) ?_
      refine sv_go C.1 C.2.1 [(.aload_n 0, 1)] (pc' := 38) (by decide +kernel) rfl (lv' := [(0, sv_r a), (1, sv_i v), (2, sv_i w)]) (st' := [sv_r a, sv_i v1, sv_r v12]) rfl ?_
      refine sv_gf C (index := 15) (ci := 4) (k := 3) (r := (RX5, TX5, 5)) (v := sv_r v12) (by decide +kernel) (by rw [k_a]; rfl) rfl (by decide) fl_X5_15 (congrArg sv_a ev12) ?_
      refine sv_go C.1 C.2.1 [(.aload_n 0, 1)] (pc' := 42) (by decide +kernel) rfl (lv' := [(0, sv_r a), (1, sv_i v), (2, sv_i w)]) (st' := [sv_r a, sv_r v12, sv_i v1, sv_r v12]) rfl ?_
      refine sv_gf C (index := 18) (ci := 4) (k := 0) (r := (RX5, TX5, 5)) (v := sv_i v1) (by decide +kernel) (by rw [k_a]; rfl) rfl (by decide) fl_X5_18 (congrArg sv_i t9) ?_
      refine sv_go C.1 C.2.1 [(.iconst 1, 1), (.isub, 1)] (pc' := 47) (by decide +kernel) rfl (lv' := [(0, sv_r a), (1, sv_i v), (2, sv_i w)]) (st' := [sv_i (v1 - 1), sv_r v12, sv_i v1, sv_r v12]) rfl ?_
      refine sv_ia C (n := 12) (by decide +kernel) (by rw [kv12]; rfl) (by decide) (by omega) (by omega) ?_
      obtain ⟨v13, ev13, hv13⟩ := sv_rde hok5 (a := v12) (k := (v1 - 1 : Int).toNat) (n := 12) (by rw [kv12]; rfl) (by omega)
      rw [ev13]
      refine sv_go C.1 C.2.1 [(.iload_n 2, 1), (.iadd, 1)] (pc' := 50) (by decide +kernel) rfl (lv' := [(0, sv_r a), (1, sv_i v), (2, sv_i w)]) (st' := [sv_i (v13 + w), sv_i v1, sv_r v12]) rfl ?_
      obtain ⟨w14, hw14, ew14⟩ := sv_wr (v13 + w)
      refine sv_sameD (st2 := [sv_i w14, sv_i v1, sv_r v12]) (lv2 := [(0, sv_r a), (1, sv_i v), (2, sv_i w)]) (by simp only [List.map_cons, List.map_nil, sv_den_i, ew14]) rfl ?_
      refine sv_is C (n := 12) (by decide +kernel) (by rw [kv12]; rfl) (by decide) (by omega) (by omega) ⟨by omega, by omega⟩ (hTA _ (by rw [kv12]; decide)) hok5 (fun hok15 => ?_)
      have hI17 := hI7.up (a := v12) (k := (v1 : Int).toNat) (z := w14) (by rw [kv12]; exact trivial)
      have hF18 := hF8.up (a := v12) (k := (v1 : Int).toNat) (z := w14) (Or.inl (by rw [kv12]; decide))
      generalize eσ16 : sv_up σ6 v12 (v1 : Int).toNat w14 = σ16 at hok15 hI17 hF18 ⊢
      have t19 : σ16 a 0 = v1 := by rw [← eσ16, sv_up_a (sv_ne k_a kv12 (by decide))]; exact t9
      have t20 : σ16 a 2 = (v4 : Int) + 1 := by rw [← eσ16, sv_up_a (sv_ne k_a kv12 (by decide))]; exact t10
      have t21 : σ16 v4 (v1 : Int).toNat = v := by rw [← eσ16, sv_up_a (sv_ne kv4 kv12 (by decide))]; exact t11
      have t22 : σ16 a 3 = (v12 : Int) + 1 := by rw [← eσ16, sv_up_a (sv_ne k_a kv12 (by decide))]; exact ev12
      have t24 : σ16 v12 (v1 : Int).toNat = w14 := by rw [← eσ16]; exact sv_up_s _ _ _ _
      refine sv_go C.1 C.2.1 [(.aload_n 0, 1), (.dup, 1)] (pc' := 53) (by decide +kernel) rfl (lv' := [(0, sv_r a), (1, sv_i v), (2, sv_i w)]) (st' := [sv_r a, sv_r a]) rfl ?_
      refine sv_gf C (index := 18) (ci := 4) (k := 0) (r := (RX5, TX5, 5)) (v := sv_i v1) (by decide +kernel) (by rw [k_a]; rfl) rfl (by decide) fl_X5_18 (congrArg sv_i t19) ?_
      refine sv_go C.1 C.2.1 [(.iconst 1, 1), (.iadd, 1)] (pc' := 58) (by decide +kernel) rfl (lv' := [(0, sv_r a), (1, sv_i v), (2, sv_i w)]) (st' := [sv_i (v1 + 1), sv_r a]) rfl ?_
      refine sv_pf C (index := 18) (ci := 4) (k := 0) (r := (RX5, TX5, 5)) (z := v1 + 1) (by decide +kernel) (by rw [k_a]; rfl) rfl (by decide) rfl fl_X5_18 rfl (Or.inl rfl) ⟨by omega, by omega⟩ (hTA _ (by rw [k_a]; decide)) hok15 (fun hok25 => ?_)
      have hI27 := hI17.up (a := a) (k := 0) (z := v1 + 1) (by rw [k_a]; exact ⟨by omega, by omega⟩)
      have hF28 := hF18.up (a := a) (k := 0) (z := v1 + 1) (Or.inr (by rw [k_a]; decide))
      generalize eσ26 : sv_up σ16 a 0 (v1 + 1) = σ26 at hok25 hI27 hF28 ⊢
      have t29 : σ26 a 2 = (v4 : Int) + 1 := by rw [← eσ26, sv_up_k (by decide)]; exact t20
      have t30 : σ26 v4 (v1 : Int).toNat = v := by rw [← eσ26, sv_up_a (sv_ne kv4 k_a (by decide))]; exact t21
      have t31 : σ26 a 3 = (v12 : Int) + 1 := by rw [← eσ26, sv_up_k (by decide)]; exact t22
      have t32 : σ26 v12 (v1 : Int).toNat = w14 := by rw [← eσ26, sv_up_a (sv_ne kv12 k_a (by decide))]; exact t24
      have t33 : σ26 a 0 = v1 + 1 := by rw [← eσ26]; exact sv_up_s _ _ _ _
      refine sv_go C.1 C.2.1 [(.iconst 1, 1)] (pc' := 62) (by decide +kernel) rfl (lv' := [(0, sv_r a), (1, sv_i v), (2, sv_i w)]) (st' := [sv_i 1]) rfl ?_
      exact sv_zret C hr (by omega) (by decide +kernel) hok25 (⟨⟨_, rfl, ⟨by omega, by omega⟩⟩, hI27, hF28⟩)
    · refine sv_go C.1 C.2.1 [(.iconst 0, 1)] (pc' := 18) (by decide +kernel) rfl (lv' := [(0, sv_r a), (1, sv_i v), (2, sv_i w)]) (st' := [sv_i 0]) rfl ?_
      exact sv_zret C hr (by omega) (by decide +kernel) hok (⟨⟨_, rfl, ⟨by omega, by omega⟩⟩, hI, hF⟩)

set_option maxHeartbeats 4000000 in
set_option maxRecDepth 100000 in
theorem sf_X5_stretches (l : Launch) (g : sv_G) (A : Nat → Prop) (ty : Nat → Nat) (σ : Nat → Nat → Int) (hok : sv_ok ty σ) (hTA : ∀ q, ty q ≠ 0 → A q) (hI : sv_inv sp_1 ty σ) (a : Nat) (k_a : ty a = 9) : sv_M l yX5_stretches cX5_stretches 1 (some .int) { frames := 0, cells := 0, slots := 0, locals := 0 } g A ty σ [sv_r a] (fun r σ' => σ = σ' ∧ ∃ rv : Int, r = [sv_i rv] ∧ ((-1) ≤ rv ∧ rv ≤ 23) ∧ ((-1) ≤ rv → rv ≤ 23 → rv = 2 * σ a 0 - 1)) := by
  refine sv_enter (by decide) (Nat.le_of_ble_eq_true rfl) ?_
  intro p e s m args below meth c C hr
  have C : sv_C g A RX5 cX5_stretches 1 p s m args meth c := C
  have hr : meth.sig.returnType = (some .int) := hr
  have hF : sv_ofx [] [] ty σ σ := sv_ofx.rf
  refine sv_same (st2 := []) (lv2 := [(0, sv_r a)]) rfl rfl ?_
  refine sv_go C.1 C.2.1 [(.iconst 2, 1), (.aload_n 0, 1)] (pc' := 2) (by decide +kernel) rfl (lv' := [(0, sv_r a)]) (st' := [sv_r a, sv_i 2]) rfl ?_
  obtain ⟨v1, ev1, hv1⟩ := sv_rdn hI (k := 0) k_a rfl
  refine sv_gf C (index := 18) (ci := 4) (k := 0) (r := (RX5, TX5, 5)) (v := sv_i v1) (by decide +kernel) (by rw [k_a]; rfl) rfl (by decide) fl_X5_18 (congrArg sv_i ev1) ?_
  refine sv_go C.1 C.2.1 [(.imul, 1), (.iconst 1, 1), (.isub, 1)] (pc' := 8) (by decide +kernel) rfl (lv' := [(0, sv_r a)]) (st' := [sv_i ((2 * v1) - 1)]) rfl ?_
  exact sv_iret C hr (by decide +kernel) hok (⟨rfl, ⟨_, rfl, ⟨by omega, by omega⟩, fun _ _ => (by omega)⟩⟩)

set_option maxHeartbeats 4000000 in
set_option maxRecDepth 100000 in
theorem sf_X5_comes (l : Launch) (g : sv_G) (A : Nat → Prop) (ty : Nat → Nat) (σ : Nat → Nat → Int) (hok : sv_ok ty σ) (hTA : ∀ q, ty q ≠ 0 → A q) (hI : sv_inv sp_1 ty σ) (a : Nat) (k_a : ty a = 9) (v : Int) (h_v : 0 ≤ v ∧ v ≤ 22) : sv_M l yX5_comes cX5_comes 2 (some .int) { frames := 0, cells := 0, slots := 0, locals := 0 } g A ty σ [sv_r a, sv_i v] (fun r σ' => σ = σ' ∧ ∃ rv : Int, r = [sv_i rv] ∧ ((-2147483648) ≤ rv ∧ rv ≤ 2147483647)) := by
  refine sv_enter (by decide) (Nat.le_of_ble_eq_true rfl) ?_
  intro p e s m args below meth c C hr
  have C : sv_C g A RX5 cX5_comes 2 p s m args meth c := C
  have hr : meth.sig.returnType = (some .int) := hr
  have hF : sv_ofx [] [] ty σ σ := sv_ofx.rf
  refine sv_same (st2 := []) (lv2 := [(0, sv_r a), (1, sv_i v)]) rfl rfl ?_
  refine sv_go C.1 C.2.1 [(.aload_n 0, 1)] (pc' := 1) (by decide +kernel) rfl (lv' := [(0, sv_r a), (1, sv_i v)]) (st' := [sv_r a]) rfl ?_
  obtain ⟨v1, ev1, kv1⟩ := hI.ref (k := 3) k_a rfl
  refine sv_gf C (index := 15) (ci := 4) (k := 3) (r := (RX5, TX5, 5)) (v := sv_r v1) (by decide +kernel) (by rw [k_a]; rfl) rfl (by decide) fl_X5_15 (congrArg sv_a ev1) ?_
  refine sv_go C.1 C.2.1 [(.iload_n 1, 1), (.iconst 2, 1)] (pc' := 6) (by decide +kernel) rfl (lv' := [(0, sv_r a), (1, sv_i v)]) (st' := [sv_i 2, sv_i v, sv_r v1]) rfl ?_
  refine sv_idivP C.1 C.2.1 (by decide +kernel) ⟨by omega, by omega⟩ ⟨by omega, by omega⟩ ?_
  refine sv_ia C (n := 12) (by decide +kernel) (by rw [kv1]; rfl) (by decide) (by omega) (by omega) ?_
  obtain ⟨v2, ev2, hv2⟩ := sv_rde hok (a := v1) (k := (v / 2 : Int).toNat) (n := 12) (by rw [kv1]; rfl) (by omega)
  rw [ev2]
  exact sv_iret C hr (by decide +kernel) hok (⟨rfl, ⟨_, rfl, ⟨by omega, by omega⟩⟩⟩)

set_option maxHeartbeats 4000000 in
set_option maxRecDepth 100000 in
theorem sf_X5_leaves (l : Launch) (g : sv_G) (A : Nat → Prop) (ty : Nat → Nat) (σ : Nat → Nat → Int) (hok : sv_ok ty σ) (hTA : ∀ q, ty q ≠ 0 → A q) (hI : sv_inv sp_1 ty σ) (a : Nat) (k_a : ty a = 9) (v : Int) (h_v : 0 ≤ v ∧ v ≤ 22) : sv_M l yX5_leaves cX5_leaves 2 (some .int) { frames := 0, cells := 0, slots := 0, locals := 0 } g A ty σ [sv_r a, sv_i v] (fun r σ' => σ = σ' ∧ ∃ rv : Int, r = [sv_i rv] ∧ ((-2147483648) ≤ rv ∧ rv ≤ 2147483647)) := by
  refine sv_enter (by decide) (Nat.le_of_ble_eq_true rfl) ?_
  intro p e s m args below meth c C hr
  have C : sv_C g A RX5 cX5_leaves 2 p s m args meth c := C
  have hr : meth.sig.returnType = (some .int) := hr
  have hF : sv_ofx [] [] ty σ σ := sv_ofx.rf
  refine sv_same (st2 := []) (lv2 := [(0, sv_r a), (1, sv_i v)]) rfl rfl ?_
  refine sv_go C.1 C.2.1 [(.aload_n 0, 1)] (pc' := 1) (by decide +kernel) rfl (lv' := [(0, sv_r a), (1, sv_i v)]) (st' := [sv_r a]) rfl ?_
  obtain ⟨v1, ev1, kv1⟩ := hI.ref (k := 3) k_a rfl
  refine sv_gf C (index := 15) (ci := 4) (k := 3) (r := (RX5, TX5, 5)) (v := sv_r v1) (by decide +kernel) (by rw [k_a]; rfl) rfl (by decide) fl_X5_15 (congrArg sv_a ev1) ?_
  refine sv_go C.1 C.2.1 [(.iload_n 1, 1), (.iconst 1, 1), (.iadd, 1), (.iconst 2, 1)] (pc' := 8) (by decide +kernel) rfl (lv' := [(0, sv_r a), (1, sv_i v)]) (st' := [sv_i 2, sv_i (v + 1), sv_r v1]) rfl ?_
  refine sv_idivP C.1 C.2.1 (by decide +kernel) ⟨by omega, by omega⟩ ⟨by omega, by omega⟩ ?_
  refine sv_ia C (n := 12) (by decide +kernel) (by rw [kv1]; rfl) (by decide) (by omega) (by omega) ?_
  obtain ⟨v2, ev2, hv2⟩ := sv_rde hok (a := v1) (k := ((v + 1) / 2 : Int).toNat) (n := 12) (by rw [kv1]; rfl) (by omega)
  rw [ev2]
  refine sv_go C.1 C.2.1 [(.aload_n 0, 1)] (pc' := 11) (by decide +kernel) rfl (lv' := [(0, sv_r a), (1, sv_i v)]) (st' := [sv_r a, sv_i v2]) rfl ?_
  obtain ⟨v3, ev3, hv3⟩ := sv_rdn hI (k := 4) k_a rfl
  refine sv_gf C (index := 25) (ci := 4) (k := 4) (r := (RX5, TX5, 5)) (v := sv_i v3) (by decide +kernel) (by rw [k_a]; rfl) rfl (by decide) fl_X5_25 (congrArg sv_i ev3) ?_
  refine sv_go C.1 C.2.1 [(.iadd, 1)] (pc' := 15) (by decide +kernel) rfl (lv' := [(0, sv_r a), (1, sv_i v)]) (st' := [sv_i (v2 + v3)]) rfl ?_
  obtain ⟨w4, hw4, ew4⟩ := sv_wr (v2 + v3)
  refine sv_sameD (st2 := [sv_i w4]) (lv2 := [(0, sv_r a), (1, sv_i v)]) (by simp only [List.map_cons, List.map_nil, sv_den_i, ew4]) rfl ?_
  exact sv_iret C hr (by decide +kernel) hok (⟨rfl, ⟨_, rfl, ⟨by omega, by omega⟩⟩⟩)

set_option maxHeartbeats 4000000 in
set_option maxRecDepth 100000 in
theorem sf_X5_tellCorner (l : Launch) (g : sv_G) (A : Nat → Prop) (ty : Nat → Nat) (σ : Nat → Nat → Int) (hok : sv_ok ty σ) (hTA : ∀ q, ty q ≠ 0 → A q) (hI : sv_inv sp_1 ty σ) (a : Nat) (k_a : ty a = 9) (v : Int) (h_v : (-2147483648) ≤ v ∧ v ≤ 2147483647) : sv_M l yX5_tellCorner cX5_tellCorner 2 (some .int) { frames := 0, cells := 0, slots := 0, locals := 0 } g A ty σ [sv_r a, sv_i v] (fun r σ' => σ = σ' ∧ ∃ rv : Int, r = [sv_i rv] ∧ ((-2147483648) ≤ rv ∧ rv ≤ 2147483647)) := by
  refine sv_enter (by decide) (Nat.le_of_ble_eq_true rfl) ?_
  intro p e s m args below meth c C hr
  have C : sv_C g A RX5 cX5_tellCorner 2 p s m args meth c := C
  have hr : meth.sig.returnType = (some .int) := hr
  have hF : sv_ofx [] [] ty σ σ := sv_ofx.rf
  refine sv_same (st2 := []) (lv2 := [(0, sv_r a), (1, sv_i v)]) rfl rfl ?_
  refine sv_go C.1 C.2.1 [(.iload_n 1, 1), (.bipush 10, 2)] (pc' := 3) (by decide +kernel) rfl (lv' := [(0, sv_r a), (1, sv_i v)]) (st' := [sv_i 10, sv_i v]) rfl ?_
  refine sv_icmp C.1 C.2.1 (cnd := .lt) (off := 24) (tgt := 27) (by decide +kernel) (by decide) ⟨by omega, by omega⟩ ⟨by omega, by omega⟩ (fun (h1 : v < 10) => ?_) (fun (h1 : ¬ (v < 10)) => ?_)
  · refine sv_go C.1 C.2.1 [(.iload_n 1, 1), (.bipush 30, 2)] (pc' := 30) (by decide +kernel) rfl (lv' := [(0, sv_r a), (1, sv_i v)]) (st' := [sv_i 30, sv_i v]) rfl ?_
    refine sv_icmp_t C.1 C.2.1 (cnd := .lt) (off := 29) (tgt := 59) (by decide +kernel) (by decide) ⟨by omega, by omega⟩ ⟨by omega, by omega⟩ (show v < 30 by omega) ?_
    refine sv_go C.1 C.2.1 [(.iconst (-1), 1)] (pc' := 60) (by decide +kernel) rfl (lv' := [(0, sv_r a), (1, sv_i v)]) (st' := [sv_i ((-1))]) rfl ?_
    exact sv_iret C hr (by decide +kernel) hok (⟨rfl, ⟨_, rfl, ⟨by omega, by omega⟩⟩⟩)
  · refine sv_go C.1 C.2.1 [(.iload_n 1, 1), (.bipush 10, 2), (.isub, 1), (.aload_n 0, 1)] (pc' := 11) (by decide +kernel) rfl (lv' := [(0, sv_r a), (1, sv_i v)]) (st' := [sv_r a, sv_i (v - 10)]) rfl ?_
    obtain ⟨v2, ev2, hv2⟩ := sv_rdn hI (k := 0) k_a rfl
    refine sv_gf C (index := 18) (ci := 4) (k := 0) (r := (RX5, TX5, 5)) (v := sv_i v2) (by decide +kernel) (by rw [k_a]; rfl) rfl (by decide) fl_X5_18 (congrArg sv_i ev2) ?_
    refine sv_icmp C.1 C.2.1 (cnd := .ge) (off := 13) (tgt := 27) (by decide +kernel) (by decide) ⟨by omega, by omega⟩ ⟨by omega, by omega⟩ (fun (h3 : v2 ≤ (v - 10)) => ?_) (fun (h3 : ¬ (v2 ≤ (v - 10))) => ?_)
    · refine sv_go C.1 C.2.1 [(.iload_n 1, 1), (.bipush 30, 2)] (pc' := 30) (by decide +kernel) rfl (lv' := [(0, sv_r a), (1, sv_i v)]) (st' := [sv_i 30, sv_i v]) rfl ?_
      refine sv_icmp C.1 C.2.1 (cnd := .lt) (off := 29) (tgt := 59) (by decide +kernel) (by decide) ⟨by omega, by omega⟩ ⟨by omega, by omega⟩ (fun (h4 : v < 30) => ?_) (fun (h4 : ¬ (v < 30)) => ?_)
      · refine sv_go C.1 C.2.1 [(.iconst (-1), 1)] (pc' := 60) (by decide +kernel) rfl (lv' := [(0, sv_r a), (1, sv_i v)]) (st' := [sv_i ((-1))]) rfl ?_
        exact sv_iret C hr (by decide +kernel) hok (⟨rfl, ⟨_, rfl, ⟨by omega, by omega⟩⟩⟩)
      · refine sv_go C.1 C.2.1 [(.iload_n 1, 1), (.bipush 30, 2), (.isub, 1), (.aload_n 0, 1)] (pc' := 38) (by decide +kernel) rfl (lv' := [(0, sv_r a), (1, sv_i v)]) (st' := [sv_r a, sv_i (v - 30)]) rfl ?_
        refine sv_gf C (index := 18) (ci := 4) (k := 0) (r := (RX5, TX5, 5)) (v := sv_i v2) (by decide +kernel) (by rw [k_a]; rfl) rfl (by decide) fl_X5_18 (congrArg sv_i ev2) ?_
        refine sv_icmp C.1 C.2.1 (cnd := .ge) (off := 18) (tgt := 59) (by decide +kernel) (by decide) ⟨by omega, by omega⟩ ⟨by omega, by omega⟩ (fun (h5 : v2 ≤ (v - 30)) => ?_) (fun (h5 : ¬ (v2 ≤ (v - 30))) => ?_)
        · refine sv_go C.1 C.2.1 [(.iconst (-1), 1)] (pc' := 60) (by decide +kernel) rfl (lv' := [(0, sv_r a), (1, sv_i v)]) (st' := [sv_i ((-1))]) rfl ?_
          exact sv_iret C hr (by decide +kernel) hok (⟨rfl, ⟨_, rfl, ⟨by omega, by omega⟩⟩⟩)
        · refine sv_go C.1 C.2.1 [(.aload_n 0, 1)] (pc' := 45) (by decide +kernel) rfl (lv' := [(0, sv_r a), (1, sv_i v)]) (st' := [sv_r a]) rfl ?_
          obtain ⟨v6, ev6, hv6⟩ := sv_rdn hI (k := 1) k_a rfl
          refine sv_gf C (index := 22) (ci := 4) (k := 1) (r := (RX5, TX5, 5)) (v := sv_i v6) (by decide +kernel) (by rw [k_a]; rfl) rfl (by decide) fl_X5_22 (congrArg sv_i ev6) ?_
          refine sv_go C.1 C.2.1 [(.aload_n 0, 1)] (pc' := 49) (by decide +kernel) rfl (lv' := [(0, sv_r a), (1, sv_i v)]) (st' := [sv_r a, sv_i v6]) rfl ?_
          obtain ⟨v7, ev7, kv7⟩ := hI.ref (k := 3) k_a rfl
          refine sv_gf C (index := 15) (ci := 4) (k := 3) (r := (RX5, TX5, 5)) (v := sv_r v7) (by decide +kernel) (by rw [k_a]; rfl) rfl (by decide) fl_X5_15 (congrArg sv_a ev7) ?_
          refine sv_go C.1 C.2.1 [(.iload_n 1, 1), (.bipush 30, 2), (.isub, 1)] (pc' := 56) (by decide +kernel) rfl (lv' := [(0, sv_r a), (1, sv_i v)]) (st' := [sv_i (v - 30), sv_r v7, sv_i v6]) rfl ?_
          refine sv_ia C (n := 12) (by decide +kernel) (by rw [kv7]; rfl) (by decide) (by omega) (by omega) ?_
          obtain ⟨v8, ev8, hv8⟩ := sv_rde hok (a := v7) (k := (v - 30 : Int).toNat) (n := 12) (by rw [kv7]; rfl) (by omega)
          rw [ev8]
          refine sv_go C.1 C.2.1 [(.iadd, 1)] (pc' := 58) (by decide +kernel) rfl (lv' := [(0, sv_r a), (1, sv_i v)]) (st' := [sv_i (v6 + v8)]) rfl ?_
          obtain ⟨w9, hw9, ew9⟩ := sv_wr (v6 + v8)
          refine sv_sameD (st2 := [sv_i w9]) (lv2 := [(0, sv_r a), (1, sv_i v)]) (by simp only [List.map_cons, List.map_nil, sv_den_i, ew9]) rfl ?_
          exact sv_iret C hr (by decide +kernel) hok (⟨rfl, ⟨_, rfl, ⟨by omega, by omega⟩⟩⟩)
    · refine sv_go C.1 C.2.1 [(.aload_n 0, 1)] (pc' := 18) (by decide +kernel) rfl (lv' := [(0, sv_r a), (1, sv_i v)]) (st' := [sv_r a]) rfl ?_
      obtain ⟨v10, ev10, kv10⟩ := hI.ref (k := 2) k_a rfl
      refine sv_gf C (index := 9) (ci := 4) (k := 2) (r := (RX5, TX5, 5)) (v := sv_r v10) (by decide +kernel) (by rw [k_a]; rfl) rfl (by decide) fl_X5_9 (congrArg sv_a ev10) ?_
      refine sv_go C.1 C.2.1 [(.iload_n 1, 1), (.bipush 10, 2), (.isub, 1)] (pc' := 25) (by decide +kernel) rfl (lv' := [(0, sv_r a), (1, sv_i v)]) (st' := [sv_i (v - 10), sv_r v10]) rfl ?_
      refine sv_ia C (n := 12) (by decide +kernel) (by rw [kv10]; rfl) (by decide) (by omega) (by omega) ?_
      obtain ⟨v11, ev11, hv11⟩ := sv_rdn hI (k := (v - 10 : Int).toNat) kv10 rfl
      rw [ev11]
      exact sv_iret C hr (by decide +kernel) hok (⟨rfl, ⟨_, rfl, ⟨by omega, by omega⟩⟩⟩)

theorem ml_X5_28 : Cond.methodLink RX5 28 yX5_stretches ∈ lw_good := sv_mem 936 (by decide +kernel) rfl
theorem co_X5_stretches : Cond.code yX5_stretches cX5_stretches 1 (some .int) ∈ lw_good := sv_mem 939 (by decide +kernel) rfl
theorem in_X5 : Cond.initialized RX5 ∈ lw_good := sv_mem 81 (by decide +kernel) rfl
theorem im_X5_stretches : Cond.instanceMethod yX5_stretches ∈ lw_good := sv_mem 938 (by decide +kernel) rfl
theorem se_X5_stretches : Cond.selects RX5 yX5_stretches yX5_stretches ∈ lw_good := sv_mem 36 (by decide +kernel) rfl
theorem ml_X5_32 : Cond.methodLink RX5 32 yX5_comes ∈ lw_good := sv_mem 940 (by decide +kernel) rfl
theorem co_X5_comes : Cond.code yX5_comes cX5_comes 2 (some .int) ∈ lw_good := sv_mem 943 (by decide +kernel) rfl
theorem im_X5_comes : Cond.instanceMethod yX5_comes ∈ lw_good := sv_mem 942 (by decide +kernel) rfl
theorem se_X5_comes : Cond.selects RX5 yX5_comes yX5_comes ∈ lw_good := sv_mem 37 (by decide +kernel) rfl
theorem ml_X5_36 : Cond.methodLink RX5 36 yX5_tellCorner ∈ lw_good := sv_mem 944 (by decide +kernel) rfl
theorem co_X5_tellCorner : Cond.code yX5_tellCorner cX5_tellCorner 2 (some .int) ∈ lw_good := sv_mem 947 (by decide +kernel) rfl
theorem im_X5_tellCorner : Cond.instanceMethod yX5_tellCorner ∈ lw_good := sv_mem 946 (by decide +kernel) rfl
theorem se_X5_tellCorner : Cond.selects RX5 yX5_tellCorner yX5_tellCorner ∈ lw_good := sv_mem 38 (by decide +kernel) rfl
set_option maxHeartbeats 4000000 in
set_option maxRecDepth 100000 in
theorem sf_X5_tell (l : Launch) (g : sv_G) (A : Nat → Prop) (ty : Nat → Nat) (σ : Nat → Nat → Int) (hok : sv_ok ty σ) (hTA : ∀ q, ty q ≠ 0 → A q) (hI : sv_inv sp_1 ty σ) (a : Nat) (k_a : ty a = 9) (v : Int) (h_v : (-2147483648) ≤ v ∧ v ≤ 2147483647) : sv_M l yX5_tell cX5_tell 2 (some .int) { frames := 1, cells := 0, slots := 0, locals := 21 } g A ty σ [sv_r a, sv_i v] (fun r σ' => σ = σ' ∧ ∃ rv : Int, r = [sv_i rv] ∧ ((-2147483648) ≤ rv ∧ rv ≤ 2147483647)) := by
  refine sv_enter (by decide) (Nat.le_of_ble_eq_true rfl) ?_
  intro p e s m args below meth c C hr
  have C : sv_C g A RX5 cX5_tell 2 p s m args meth c := C
  have hr : meth.sig.returnType = (some .int) := hr
  have hF : sv_ofx [] [] ty σ σ := sv_ofx.rf
  refine sv_same (st2 := []) (lv2 := [(0, sv_r a), (1, sv_i v)]) rfl rfl ?_
  refine sv_go C.1 C.2.1 [(.iload_n 1, 1)] (pc' := 1) (by decide +kernel) rfl (lv' := [(0, sv_r a), (1, sv_i v)]) (st' := [sv_i v]) rfl ?_
  rcases (show v = 0 ∨ v = 1 ∨ v = 2 ∨ (v ≠ 0 ∧ v ≠ 1 ∧ v ≠ 2) by omega) with h1 | h1 | h1 | h1
  · refine sv_tsI C.1 C.2.1 (dflt := 69) (lo := 0) (hi := 2) (offs := #[27, 32, 37]) (len := 27) (off := 27) (tgt := 28) (by decide +kernel) 0 h1 (by decide) rfl (by decide) ?_
    refine sv_go C.1 C.2.1 [(.aload_n 0, 1)] (pc' := 29) (by decide +kernel) rfl (lv' := [(0, sv_r a), (1, sv_i v)]) (st' := [sv_r a]) rfl ?_
    obtain ⟨v2, ev2, hv2⟩ := sv_rdn hI (k := 0) k_a rfl
    refine sv_gf C (index := 18) (ci := 4) (k := 0) (r := (RX5, TX5, 5)) (v := sv_i v2) (by decide +kernel) (by rw [k_a]; rfl) rfl (by decide) fl_X5_18 (congrArg sv_i ev2) ?_
    exact sv_iret C hr (by decide +kernel) hok (⟨rfl, ⟨_, rfl, ⟨by omega, by omega⟩⟩⟩)
  · refine sv_tsI C.1 C.2.1 (dflt := 69) (lo := 0) (hi := 2) (offs := #[27, 32, 37]) (len := 27) (off := 32) (tgt := 33) (by decide +kernel) 1 h1 (by decide) rfl (by decide) ?_
    refine sv_go C.1 C.2.1 [(.aload_n 0, 1)] (pc' := 34) (by decide +kernel) rfl (lv' := [(0, sv_r a), (1, sv_i v)]) (st' := [sv_r a]) rfl ?_
    obtain ⟨v3, ev3, hv3⟩ := sv_rdn hI (k := 1) k_a rfl
    refine sv_gf C (index := 22) (ci := 4) (k := 1) (r := (RX5, TX5, 5)) (v := sv_i v3) (by decide +kernel) (by rw [k_a]; rfl) rfl (by decide) fl_X5_22 (congrArg sv_i ev3) ?_
    exact sv_iret C hr (by decide +kernel) hok (⟨rfl, ⟨_, rfl, ⟨by omega, by omega⟩⟩⟩)
  · refine sv_tsI C.1 C.2.1 (dflt := 69) (lo := 0) (hi := 2) (offs := #[27, 32, 37]) (len := 27) (off := 37) (tgt := 38) (by decide +kernel) 2 h1 (by decide) rfl (by decide) ?_
    refine sv_go C.1 C.2.1 [(.aload_n 0, 1)] (pc' := 39) (by decide +kernel) rfl (lv' := [(0, sv_r a), (1, sv_i v)]) (st' := [sv_r a]) rfl ?_
    obtain ⟨v4, ev4, hv4⟩ := sv_rdn hI (k := 0) k_a rfl
    refine sv_gf C (index := 18) (ci := 4) (k := 0) (r := (RX5, TX5, 5)) (v := sv_i v4) (by decide +kernel) (by rw [k_a]; rfl) rfl (by decide) fl_X5_18 (congrArg sv_i ev4) ?_
    refine sv_if C.1 C.2.1 (cnd := .le) (off := 26) (tgt := 68) (by decide +kernel) (by decide) ⟨by omega, by omega⟩ (fun (h5 : v4 ≤ 0) => ?_) (fun (h5 : ¬ (v4 ≤ 0)) => ?_)
    · refine sv_go C.1 C.2.1 [(.iconst (-1), 1)] (pc' := 69) (by decide +kernel) rfl (lv' := [(0, sv_r a), (1, sv_i v)]) (st' := [sv_i ((-1))]) rfl ?_
      exact sv_iret C hr (by decide +kernel) hok (⟨rfl, ⟨_, rfl, ⟨by omega, by omega⟩⟩⟩)
    · refine sv_go C.1 C.2.1 [(.aload_n 0, 1)] (pc' := 46) (by decide +kernel) rfl (lv' := [(0, sv_r a), (1, sv_i v)]) (st' := [sv_r a]) rfl ?_
      obtain ⟨v6, ev6, hv6⟩ := sv_rdn hI (k := 1) k_a rfl
      refine sv_gf C (index := 22) (ci := 4) (k := 1) (r := (RX5, TX5, 5)) (v := sv_i v6) (by decide +kernel) (by rw [k_a]; rfl) rfl (by decide) fl_X5_22 (congrArg sv_i ev6) ?_
      refine sv_go C.1 C.2.1 [(.aload_n 0, 1), (.aload_n 0, 1)] (pc' := 51) (by decide +kernel) rfl (lv' := [(0, sv_r a), (1, sv_i v)]) (st' := [sv_r a, sv_r a, sv_i v6]) rfl ?_
      refine sv_cv C (index := 28) (k := 0) (rest := [sv_r a, sv_i v6]) (ci := 4) (r := (RX5, TX5, 5)) (by decide +kernel) (sf_X5_stretches l g A ty σ hok hTA hI a k_a) ⟨co_X5_stretches, in_X5, ⟨by decide, by decide, by decide +kernel⟩, Nat.le_of_ble_eq_true rfl, Nat.le_of_ble_eq_true rfl⟩ ml_X5_28 im_X5_stretches se_X5_stretches (by rw [k_a]; rfl) rfl rfl rfl (Nat.le_of_ble_eq_true rfl) ⟨Nat.zero_le _, Nat.zero_le _⟩ (fun r8 σ9 hpo7 hok10 => ?_)
      obtain ⟨rfl, ⟨vu11, rfl, hvu11, ivu11_0⟩⟩ := hpo7
      have hp12 := ivu11_0 (by omega) (by omega)
      refine sv_same (st2 := [sv_i vu11, sv_r a, sv_i v6]) (lv2 := [(0, sv_r a), (1, sv_i v)]) rfl rfl ?_
      refine sv_go C.1 C.2.1 [(.iconst 1, 1), (.isub, 1)] (pc' := 56) (by decide +kernel) rfl (lv' := [(0, sv_r a), (1, sv_i v)]) (st' := [sv_i (vu11 - 1), sv_r a, sv_i v6]) rfl ?_
      refine sv_cv C (index := 32) (k := 1) (rest := [sv_i v6]) (ci := 4) (r := (RX5, TX5, 5)) (by decide +kernel) (sf_X5_comes l g A ty σ hok10 hTA hI a k_a (vu11 - 1) ⟨by omega, by omega⟩) ⟨co_X5_comes, in_X5, ⟨by decide, by decide, by decide +kernel⟩, Nat.le_of_ble_eq_true rfl, Nat.le_of_ble_eq_true rfl⟩ ml_X5_32 im_X5_comes se_X5_comes (by rw [k_a]; rfl) rfl rfl rfl (Nat.le_of_ble_eq_true rfl) ⟨Nat.zero_le _, Nat.zero_le _⟩ (fun r14 σ15 hpo13 hok16 => ?_)
      obtain ⟨rfl, ⟨vu17, rfl, hvu17⟩⟩ := hpo13
      refine sv_same (st2 := [sv_i vu17, sv_i v6]) (lv2 := [(0, sv_r a), (1, sv_i v)]) rfl rfl ?_
      refine sv_go C.1 C.2.1 [(.iadd, 1), (.aload_n 0, 1)] (pc' := 61) (by decide +kernel) rfl (lv' := [(0, sv_r a), (1, sv_i v)]) (st' := [sv_r a, sv_i (v6 + vu17)]) rfl ?_
      obtain ⟨v18, ev18, hv18⟩ := sv_rdn hI (k := 4) k_a rfl
      refine sv_gf C (index := 25) (ci := 4) (k := 4) (r := (RX5, TX5, 5)) (v := sv_i v18) (by decide +kernel) (by rw [k_a]; rfl) rfl (by decide) fl_X5_25 (congrArg sv_i ev18) ?_
      refine sv_go C.1 C.2.1 [(.iadd, 1)] (pc' := 65) (by decide +kernel) rfl (lv' := [(0, sv_r a), (1, sv_i v)]) (st' := [sv_i ((v6 + vu17) + v18)]) rfl ?_
      refine sv_goto C.1 C.2.1 (off := 4) (tgt := 69) (by decide +kernel) (by decide) ?_
      obtain ⟨w19, hw19, ew19⟩ := sv_wr ((v6 + vu17) + v18)
      refine sv_sameD (st2 := [sv_i w19]) (lv2 := [(0, sv_r a), (1, sv_i v)]) (by simp only [List.map_cons, List.map_nil, sv_den_i, ew19]) rfl ?_
      exact sv_iret C hr (by decide +kernel) hok16 (⟨rfl, ⟨_, rfl, ⟨by omega, by omega⟩⟩⟩)
  · refine sv_tsO C.1 C.2.1 (dflt := 69) (lo := 0) (hi := 2) (offs := #[27, 32, 37]) (len := 27) (tgt := 70) (by decide +kernel) ⟨by omega, by omega⟩ (by omega) (by decide) ?_
    refine sv_go C.1 C.2.1 [(.aload_n 0, 1), (.iload_n 1, 1)] (pc' := 72) (by decide +kernel) rfl (lv' := [(0, sv_r a), (1, sv_i v)]) (st' := [sv_i v, sv_r a]) rfl ?_
    refine sv_cv C (index := 36) (k := 1) (rest := []) (ci := 4) (r := (RX5, TX5, 5)) (by decide +kernel) (sf_X5_tellCorner l g A ty σ hok hTA hI a k_a (v) ⟨by omega, by omega⟩) ⟨co_X5_tellCorner, in_X5, ⟨by decide, by decide, by decide +kernel⟩, Nat.le_of_ble_eq_true rfl, Nat.le_of_ble_eq_true rfl⟩ ml_X5_36 im_X5_tellCorner se_X5_tellCorner (by rw [k_a]; rfl) rfl rfl rfl (Nat.le_of_ble_eq_true rfl) ⟨Nat.zero_le _, Nat.zero_le _⟩ (fun r21 σ22 hpo20 hok23 => ?_)
    obtain ⟨rfl, ⟨vu24, rfl, hvu24⟩⟩ := hpo20
    refine sv_same (st2 := [sv_i vu24]) (lv2 := [(0, sv_r a), (1, sv_i v)]) rfl rfl ?_
    exact sv_iret C hr (by decide +kernel) hok23 (⟨rfl, ⟨_, rfl, ⟨by omega, by omega⟩⟩⟩)

set_option maxHeartbeats 4000000 in
set_option maxRecDepth 100000 in
theorem sf_X5_crosses (l : Launch) (g : sv_G) (A : Nat → Prop) (ty : Nat → Nat) (σ : Nat → Nat → Int) (hok : sv_ok ty σ) (hTA : ∀ q, ty q ≠ 0 → A q) (hI : sv_inv sp_1 ty σ) (a : Nat) (k_a : ty a = 9) (v : Int) (h_v : 0 ≤ v ∧ v ≤ 22) (b : Nat) (k_b : ty b = 9) (w : Int) (h_w : 0 ≤ w ∧ w ≤ 22) : sv_M l yX5_crosses cX5_crosses 4 (some .boolean) { frames := 0, cells := 0, slots := 0, locals := 0 } g A ty σ [sv_r a, sv_i v, sv_r b, sv_i w] (fun r σ' => σ = σ' ∧ ∃ rv : Int, r = [sv_i rv] ∧ (0 ≤ rv ∧ rv ≤ 1)) := by
  refine sv_enter (by decide) (Nat.le_of_ble_eq_true rfl) ?_
  intro p e s m args below meth c C hr
  have C : sv_C g A RX5 cX5_crosses 4 p s m args meth c := C
  have hr : meth.sig.returnType = (some .boolean) := hr
  have hF : sv_ofx [] [] ty σ σ := sv_ofx.rf
  refine sv_same (st2 := []) (lv2 := [(0, sv_r a), (1, sv_i v), (2, sv_r b), (3, sv_i w)]) rfl rfl ?_
  refine sv_go C.1 C.2.1 [(.aload_n 0, 1)] (pc' := 1) (by decide +kernel) rfl (lv' := [(0, sv_r a), (1, sv_i v), (2, sv_r b), (3, sv_i w)]) (st' := [sv_r a]) rfl ?_
  obtain ⟨v1, ev1, kv1⟩ := hI.ref (k := 2) k_a rfl
  refine sv_gf C (index := 9) (ci := 4) (k := 2) (r := (RX5, TX5, 5)) (v := sv_r v1) (by decide +kernel) (by rw [k_a]; rfl) rfl (by decide) fl_X5_9 (congrArg sv_a ev1) ?_
  refine sv_go C.1 C.2.1 [(.iload_n 1, 1), (.iconst 2, 1)] (pc' := 6) (by decide +kernel) rfl (lv' := [(0, sv_r a), (1, sv_i v), (2, sv_r b), (3, sv_i w)]) (st' := [sv_i 2, sv_i v, sv_r v1]) rfl ?_
  refine sv_idivP C.1 C.2.1 (by decide +kernel) ⟨by omega, by omega⟩ ⟨by omega, by omega⟩ ?_
  refine sv_ia C (n := 12) (by decide +kernel) (by rw [kv1]; rfl) (by decide) (by omega) (by omega) ?_
  obtain ⟨v2, ev2, hv2⟩ := sv_rdn hI (k := (v / 2 : Int).toNat) kv1 rfl
  rw [ev2]
  refine sv_go C.1 C.2.1 [(.aload_n 2, 1)] (pc' := 9) (by decide +kernel) rfl (lv' := [(0, sv_r a), (1, sv_i v), (2, sv_r b), (3, sv_i w)]) (st' := [sv_r b, sv_i v2]) rfl ?_
  obtain ⟨v3, ev3, kv3⟩ := hI.ref (k := 2) k_b rfl
  refine sv_gf C (index := 9) (ci := 4) (k := 2) (r := (RX5, TX5, 5)) (v := sv_r v3) (by decide +kernel) (by rw [k_b]; rfl) rfl (by decide) fl_X5_9 (congrArg sv_a ev3) ?_
  refine sv_go C.1 C.2.1 [(.iload_n 3, 1), (.iconst 1, 1), (.iadd, 1), (.iconst 2, 1)] (pc' := 16) (by decide +kernel) rfl (lv' := [(0, sv_r a), (1, sv_i v), (2, sv_r b), (3, sv_i w)]) (st' := [sv_i 2, sv_i (w + 1), sv_r v3, sv_i v2]) rfl ?_
  refine sv_idivP C.1 C.2.1 (by decide +kernel) ⟨by omega, by omega⟩ ⟨by omega, by omega⟩ ?_
  refine sv_ia C (n := 12) (by decide +kernel) (by rw [kv3]; rfl) (by decide) (by omega) (by omega) ?_
  obtain ⟨v4, ev4, hv4⟩ := sv_rdn hI (k := ((w + 1) / 2 : Int).toNat) kv3 rfl
  rw [ev4]
  refine sv_icmp C.1 C.2.1 (cnd := .ne) (off := 28) (tgt := 46) (by decide +kernel) (by decide) ⟨by omega, by omega⟩ ⟨by omega, by omega⟩ (fun (h5 : v2 ≠ v4) => ?_) (fun (h5 : ¬ (v2 ≠ v4)) => ?_)
  · refine sv_go C.1 C.2.1 [(.iconst 0, 1)] (pc' := 47) (by decide +kernel) rfl (lv' := [(0, sv_r a), (1, sv_i v), (2, sv_r b), (3, sv_i w)]) (st' := [sv_i 0]) rfl ?_
    exact sv_zret C hr (by omega) (by decide +kernel) hok (⟨rfl, ⟨_, rfl, ⟨by omega, by omega⟩⟩⟩)
  · refine sv_go C.1 C.2.1 [(.aload_n 0, 1)] (pc' := 22) (by decide +kernel) rfl (lv' := [(0, sv_r a), (1, sv_i v), (2, sv_r b), (3, sv_i w)]) (st' := [sv_r a]) rfl ?_
    refine sv_gf C (index := 9) (ci := 4) (k := 2) (r := (RX5, TX5, 5)) (v := sv_r v1) (by decide +kernel) (by rw [k_a]; rfl) rfl (by decide) fl_X5_9 (congrArg sv_a ev1) ?_
    refine sv_go C.1 C.2.1 [(.iload_n 1, 1), (.iconst 1, 1), (.iadd, 1), (.iconst 2, 1)] (pc' := 29) (by decide +kernel) rfl (lv' := [(0, sv_r a), (1, sv_i v), (2, sv_r b), (3, sv_i w)]) (st' := [sv_i 2, sv_i (v + 1), sv_r v1]) rfl ?_
    refine sv_idivP C.1 C.2.1 (by decide +kernel) ⟨by omega, by omega⟩ ⟨by omega, by omega⟩ ?_
    refine sv_ia C (n := 12) (by decide +kernel) (by rw [kv1]; rfl) (by decide) (by omega) (by omega) ?_
    obtain ⟨v6, ev6, hv6⟩ := sv_rdn hI (k := ((v + 1) / 2 : Int).toNat) kv1 rfl
    rw [ev6]
    refine sv_go C.1 C.2.1 [(.aload_n 2, 1)] (pc' := 32) (by decide +kernel) rfl (lv' := [(0, sv_r a), (1, sv_i v), (2, sv_r b), (3, sv_i w)]) (st' := [sv_r b, sv_i v6]) rfl ?_
    refine sv_gf C (index := 9) (ci := 4) (k := 2) (r := (RX5, TX5, 5)) (v := sv_r v3) (by decide +kernel) (by rw [k_b]; rfl) rfl (by decide) fl_X5_9 (congrArg sv_a ev3) ?_
    refine sv_go C.1 C.2.1 [(.iload_n 3, 1), (.iconst 2, 1)] (pc' := 37) (by decide +kernel) rfl (lv' := [(0, sv_r a), (1, sv_i v), (2, sv_r b), (3, sv_i w)]) (st' := [sv_i 2, sv_i w, sv_r v3, sv_i v6]) rfl ?_
    refine sv_idivP C.1 C.2.1 (by decide +kernel) ⟨by omega, by omega⟩ ⟨by omega, by omega⟩ ?_
    refine sv_ia C (n := 12) (by decide +kernel) (by rw [kv3]; rfl) (by decide) (by omega) (by omega) ?_
    obtain ⟨v7, ev7, hv7⟩ := sv_rdn hI (k := (w / 2 : Int).toNat) kv3 rfl
    rw [ev7]
    refine sv_icmp C.1 C.2.1 (cnd := .ne) (off := 7) (tgt := 46) (by decide +kernel) (by decide) ⟨by omega, by omega⟩ ⟨by omega, by omega⟩ (fun (h8 : v6 ≠ v7) => ?_) (fun (h8 : ¬ (v6 ≠ v7)) => ?_)
    · refine sv_go C.1 C.2.1 [(.iconst 0, 1)] (pc' := 47) (by decide +kernel) rfl (lv' := [(0, sv_r a), (1, sv_i v), (2, sv_r b), (3, sv_i w)]) (st' := [sv_i 0]) rfl ?_
      exact sv_zret C hr (by omega) (by decide +kernel) hok (⟨rfl, ⟨_, rfl, ⟨by omega, by omega⟩⟩⟩)
    · refine sv_go C.1 C.2.1 [(.iconst 1, 1)] (pc' := 43) (by decide +kernel) rfl (lv' := [(0, sv_r a), (1, sv_i v), (2, sv_r b), (3, sv_i w)]) (st' := [sv_i 1]) rfl ?_
      refine sv_goto C.1 C.2.1 (off := 4) (tgt := 47) (by decide +kernel) (by decide) ?_
      exact sv_zret C hr (by omega) (by decide +kernel) hok (⟨rfl, ⟨_, rfl, ⟨by omega, by omega⟩⟩⟩)

theorem ml_X5_47 : Cond.methodLink RX5 47 yJ9_max_7cf53 ∈ lw_good := sv_mem 968 (by decide +kernel) rfl
theorem ml_X5_53 : Cond.methodLink RX5 53 yX5_leaves ∈ lw_good := sv_mem 969 (by decide +kernel) rfl
theorem co_X5_leaves : Cond.code yX5_leaves cX5_leaves 2 (some .int) ∈ lw_good := sv_mem 972 (by decide +kernel) rfl
theorem im_X5_leaves : Cond.instanceMethod yX5_leaves ∈ lw_good := sv_mem 971 (by decide +kernel) rfl
theorem se_X5_leaves : Cond.selects RX5 yX5_leaves yX5_leaves ∈ lw_good := sv_mem 41 (by decide +kernel) rfl
theorem ml_X5_56 : Cond.methodLink RX5 56 yJ9_min_7cf53 ∈ lw_good := sv_mem 973 (by decide +kernel) rfl
set_option maxHeartbeats 4000000 in
set_option maxRecDepth 100000 in
theorem sf_X5_firstShared (l : Launch) (g : sv_G) (A : Nat → Prop) (ty : Nat → Nat) (σ : Nat → Nat → Int) (hok : sv_ok ty σ) (hTA : ∀ q, ty q ≠ 0 → A q) (hI : sv_inv sp_1 ty σ) (a : Nat) (k_a : ty a = 9) (v : Int) (h_v : 0 ≤ v ∧ v ≤ 22) (b : Nat) (k_b : ty b = 9) (w : Int) (h_w : 0 ≤ w ∧ w ≤ 22) : sv_M l yX5_firstShared cX5_firstShared 6 (some .int) { frames := 1, cells := 0, slots := 0, locals := 21 } g A ty σ [sv_r a, sv_i v, sv_r b, sv_i w] (fun r σ' => σ = σ' ∧ ∃ rv : Int, r = [sv_i rv] ∧ ((-2147483648) ≤ rv ∧ rv ≤ 2147483647)) := by
  refine sv_enter (by decide) (Nat.le_of_ble_eq_true rfl) ?_
  intro p e s m args below meth c C hr
  have C : sv_C g A RX5 cX5_firstShared 6 p s m args meth c := C
  have hr : meth.sig.returnType = (some .int) := hr
  have hF : sv_ofx [] [] ty σ σ := sv_ofx.rf
  refine sv_same (st2 := []) (lv2 := [(0, sv_r a), (1, sv_i v), (2, sv_r b), (3, sv_i w)]) rfl rfl ?_
  refine sv_go C.1 C.2.1 [(.aload_n 0, 1)] (pc' := 1) (by decide +kernel) rfl (lv' := [(0, sv_r a), (1, sv_i v), (2, sv_r b), (3, sv_i w)]) (st' := [sv_r a]) rfl ?_
  obtain ⟨v1, ev1, hv1⟩ := sv_rdn hI (k := 1) k_a rfl
  refine sv_gf C (index := 22) (ci := 4) (k := 1) (r := (RX5, TX5, 5)) (v := sv_i v1) (by decide +kernel) (by rw [k_a]; rfl) rfl (by decide) fl_X5_22 (congrArg sv_i ev1) ?_
  refine sv_go C.1 C.2.1 [(.aload_n 0, 1), (.iload_n 1, 1)] (pc' := 6) (by decide +kernel) rfl (lv' := [(0, sv_r a), (1, sv_i v), (2, sv_r b), (3, sv_i w)]) (st' := [sv_i v, sv_r a, sv_i v1]) rfl ?_
  refine sv_cv C (index := 32) (k := 1) (rest := [sv_i v1]) (ci := 4) (r := (RX5, TX5, 5)) (by decide +kernel) (sf_X5_comes l g A ty σ hok hTA hI a k_a (v) ⟨by omega, by omega⟩) ⟨co_X5_comes, in_X5, ⟨by decide, by decide, by decide +kernel⟩, Nat.le_of_ble_eq_true rfl, Nat.le_of_ble_eq_true rfl⟩ ml_X5_32 im_X5_comes se_X5_comes (by rw [k_a]; rfl) rfl rfl rfl (Nat.le_of_ble_eq_true rfl) ⟨Nat.zero_le _, Nat.zero_le _⟩ (fun r3 σ4 hpo2 hok5 => ?_)
  obtain ⟨rfl, ⟨vu6, rfl, hvu6⟩⟩ := hpo2
  refine sv_same (st2 := [sv_i vu6, sv_i v1]) (lv2 := [(0, sv_r a), (1, sv_i v), (2, sv_r b), (3, sv_i w)]) rfl rfl ?_
  refine sv_go C.1 C.2.1 [(.iadd, 1), (.aload_n 2, 1)] (pc' := 11) (by decide +kernel) rfl (lv' := [(0, sv_r a), (1, sv_i v), (2, sv_r b), (3, sv_i w)]) (st' := [sv_r b, sv_i (v1 + vu6)]) rfl ?_
  obtain ⟨v7, ev7, hv7⟩ := sv_rdn hI (k := 1) k_b rfl
  refine sv_gf C (index := 22) (ci := 4) (k := 1) (r := (RX5, TX5, 5)) (v := sv_i v7) (by decide +kernel) (by rw [k_b]; rfl) rfl (by decide) fl_X5_22 (congrArg sv_i ev7) ?_
  refine sv_go C.1 C.2.1 [(.aload_n 2, 1), (.iload_n 3, 1)] (pc' := 16) (by decide +kernel) rfl (lv' := [(0, sv_r a), (1, sv_i v), (2, sv_r b), (3, sv_i w)]) (st' := [sv_i w, sv_r b, sv_i v7, sv_i (v1 + vu6)]) rfl ?_
  refine sv_cv C (index := 32) (k := 1) (rest := [sv_i v7, sv_i (v1 + vu6)]) (ci := 4) (r := (RX5, TX5, 5)) (by decide +kernel) (sf_X5_comes l g A ty σ hok5 hTA hI b k_b (w) ⟨by omega, by omega⟩) ⟨co_X5_comes, in_X5, ⟨by decide, by decide, by decide +kernel⟩, Nat.le_of_ble_eq_true rfl, Nat.le_of_ble_eq_true rfl⟩ ml_X5_32 im_X5_comes se_X5_comes (by rw [k_b]; rfl) rfl rfl rfl (Nat.le_of_ble_eq_true rfl) ⟨Nat.zero_le _, Nat.zero_le _⟩ (fun r9 σ10 hpo8 hok11 => ?_)
  obtain ⟨rfl, ⟨vu12, rfl, hvu12⟩⟩ := hpo8
  refine sv_same (st2 := [sv_i vu12, sv_i v7, sv_i (v1 + vu6)]) (lv2 := [(0, sv_r a), (1, sv_i v), (2, sv_r b), (3, sv_i w)]) rfl rfl ?_
  refine sv_go C.1 C.2.1 [(.iadd, 1)] (pc' := 20) (by decide +kernel) rfl (lv' := [(0, sv_r a), (1, sv_i v), (2, sv_r b), (3, sv_i w)]) (st' := [sv_i (v7 + vu12), sv_i (v1 + vu6)]) rfl ?_
  obtain ⟨w13, hw13, ew13⟩ := sv_wr (v7 + vu12)
  refine sv_sameD (st2 := [sv_i w13, sv_i (v1 + vu6)]) (lv2 := [(0, sv_r a), (1, sv_i v), (2, sv_r b), (3, sv_i w)]) (by simp only [List.map_cons, List.map_nil, sv_den_i, ew13]) rfl ?_
  obtain ⟨w14, hw14, ew14⟩ := sv_wr (v1 + vu6)
  refine sv_sameD (st2 := [sv_i w13, sv_i w14]) (lv2 := [(0, sv_r a), (1, sv_i v), (2, sv_r b), (3, sv_i w)]) (by simp only [List.map_cons, List.map_nil, sv_den_i, ew14]) rfl ?_
  refine sv_max C (index := 47) (by decide +kernel) ml_X5_47 ⟨by omega, by omega⟩ ⟨by omega, by omega⟩ (Nat.le_of_ble_eq_true rfl) (Nat.le_of_ble_eq_true rfl) ⟨Nat.zero_le _, Nat.zero_le _⟩ ?_
  obtain ⟨mm15, hmm15⟩ : ∃ q : Int, q = (if (w14 : Int) < w13 then w13 else w14) := ⟨_, rfl⟩
  refine sv_same (st2 := [sv_i mm15]) (lv2 := [(0, sv_r a), (1, sv_i v), (2, sv_r b), (3, sv_i w)]) (by rw [hmm15]) rfl ?_
  refine sv_go C.1 C.2.1 [(.istore 4, 2), (.aload_n 0, 1)] (pc' := 26) (by decide +kernel) rfl (lv' := [(0, sv_r a), (1, sv_i v), (2, sv_r b), (3, sv_i w), (4, sv_i mm15)]) (st' := [sv_r a]) rfl ?_
  refine sv_gf C (index := 22) (ci := 4) (k := 1) (r := (RX5, TX5, 5)) (v := sv_i v1) (by decide +kernel) (by rw [k_a]; rfl) rfl (by decide) fl_X5_22 (congrArg sv_i ev1) ?_
  refine sv_go C.1 C.2.1 [(.aload_n 0, 1), (.iload_n 1, 1)] (pc' := 31) (by decide +kernel) rfl (lv' := [(0, sv_r a), (1, sv_i v), (2, sv_r b), (3, sv_i w), (4, sv_i mm15)]) (st' := [sv_i v, sv_r a, sv_i v1]) rfl ?_
  refine sv_cv C (index := 53) (k := 1) (rest := [sv_i v1]) (ci := 4) (r := (RX5, TX5, 5)) (by decide +kernel) (sf_X5_leaves l g A ty σ hok11 hTA hI a k_a (v) ⟨by omega, by omega⟩) ⟨co_X5_leaves, in_X5, ⟨by decide, by decide, by decide +kernel⟩, Nat.le_of_ble_eq_true rfl, Nat.le_of_ble_eq_true rfl⟩ ml_X5_53 im_X5_leaves se_X5_leaves (by rw [k_a]; rfl) rfl rfl rfl (Nat.le_of_ble_eq_true rfl) ⟨Nat.zero_le _, Nat.zero_le _⟩ (fun r17 σ18 hpo16 hok19 => ?_)
  obtain ⟨rfl, ⟨vu20, rfl, hvu20⟩⟩ := hpo16
  refine sv_same (st2 := [sv_i vu20, sv_i v1]) (lv2 := [(0, sv_r a), (1, sv_i v), (2, sv_r b), (3, sv_i w), (4, sv_i mm15)]) rfl rfl ?_
  refine sv_go C.1 C.2.1 [(.iadd, 1), (.aload_n 2, 1)] (pc' := 36) (by decide +kernel) rfl (lv' := [(0, sv_r a), (1, sv_i v), (2, sv_r b), (3, sv_i w), (4, sv_i mm15)]) (st' := [sv_r b, sv_i (v1 + vu20)]) rfl ?_
  refine sv_gf C (index := 22) (ci := 4) (k := 1) (r := (RX5, TX5, 5)) (v := sv_i v7) (by decide +kernel) (by rw [k_b]; rfl) rfl (by decide) fl_X5_22 (congrArg sv_i ev7) ?_
  refine sv_go C.1 C.2.1 [(.aload_n 2, 1), (.iload_n 3, 1)] (pc' := 41) (by decide +kernel) rfl (lv' := [(0, sv_r a), (1, sv_i v), (2, sv_r b), (3, sv_i w), (4, sv_i mm15)]) (st' := [sv_i w, sv_r b, sv_i v7, sv_i (v1 + vu20)]) rfl ?_
  refine sv_cv C (index := 53) (k := 1) (rest := [sv_i v7, sv_i (v1 + vu20)]) (ci := 4) (r := (RX5, TX5, 5)) (by decide +kernel) (sf_X5_leaves l g A ty σ hok19 hTA hI b k_b (w) ⟨by omega, by omega⟩) ⟨co_X5_leaves, in_X5, ⟨by decide, by decide, by decide +kernel⟩, Nat.le_of_ble_eq_true rfl, Nat.le_of_ble_eq_true rfl⟩ ml_X5_53 im_X5_leaves se_X5_leaves (by rw [k_b]; rfl) rfl rfl rfl (Nat.le_of_ble_eq_true rfl) ⟨Nat.zero_le _, Nat.zero_le _⟩ (fun r22 σ23 hpo21 hok24 => ?_)
  obtain ⟨rfl, ⟨vu25, rfl, hvu25⟩⟩ := hpo21
  refine sv_same (st2 := [sv_i vu25, sv_i v7, sv_i (v1 + vu20)]) (lv2 := [(0, sv_r a), (1, sv_i v), (2, sv_r b), (3, sv_i w), (4, sv_i mm15)]) rfl rfl ?_
  refine sv_go C.1 C.2.1 [(.iadd, 1)] (pc' := 45) (by decide +kernel) rfl (lv' := [(0, sv_r a), (1, sv_i v), (2, sv_r b), (3, sv_i w), (4, sv_i mm15)]) (st' := [sv_i (v7 + vu25), sv_i (v1 + vu20)]) rfl ?_
  obtain ⟨w26, hw26, ew26⟩ := sv_wr (v7 + vu25)
  refine sv_sameD (st2 := [sv_i w26, sv_i (v1 + vu20)]) (lv2 := [(0, sv_r a), (1, sv_i v), (2, sv_r b), (3, sv_i w), (4, sv_i mm15)]) (by simp only [List.map_cons, List.map_nil, sv_den_i, ew26]) rfl ?_
  obtain ⟨w27, hw27, ew27⟩ := sv_wr (v1 + vu20)
  refine sv_sameD (st2 := [sv_i w26, sv_i w27]) (lv2 := [(0, sv_r a), (1, sv_i v), (2, sv_r b), (3, sv_i w), (4, sv_i mm15)]) (by simp only [List.map_cons, List.map_nil, sv_den_i, ew27]) rfl ?_
  refine sv_min C (index := 56) (by decide +kernel) ml_X5_56 ⟨by omega, by omega⟩ ⟨by omega, by omega⟩ (Nat.le_of_ble_eq_true rfl) (Nat.le_of_ble_eq_true rfl) ⟨Nat.zero_le _, Nat.zero_le _⟩ ?_
  obtain ⟨mm28, hmm28⟩ : ∃ q : Int, q = (if (w26 : Int) < w27 then w26 else w27) := ⟨_, rfl⟩
  refine sv_same (st2 := [sv_i mm28]) (lv2 := [(0, sv_r a), (1, sv_i v), (2, sv_r b), (3, sv_i w), (4, sv_i mm15)]) (by rw [hmm28]) rfl ?_
  refine sv_go C.1 C.2.1 [(.istore 5, 2), (.iload 4, 2), (.iload 5, 2)] (pc' := 54) (by decide +kernel) rfl (lv' := [(0, sv_r a), (1, sv_i v), (2, sv_r b), (3, sv_i w), (4, sv_i mm15), (5, sv_i mm28)]) (st' := [sv_i mm28, sv_i mm15]) rfl ?_
  refine sv_icmp C.1 C.2.1 (cnd := .gt) (off := 8) (tgt := 62) (by decide +kernel) (by decide) ⟨by omega, by omega⟩ ⟨by omega, by omega⟩ (fun (h29 : mm28 < mm15) => ?_) (fun (h29 : ¬ (mm28 < mm15)) => ?_)
  · refine sv_go C.1 C.2.1 [(.iconst (-1), 1)] (pc' := 63) (by decide +kernel) rfl (lv' := [(0, sv_r a), (1, sv_i v), (2, sv_r b), (3, sv_i w), (4, sv_i mm15), (5, sv_i mm28)]) (st' := [sv_i ((-1))]) rfl ?_
    exact sv_iret C hr (by decide +kernel) hok24 (⟨rfl, ⟨_, rfl, ⟨by omega, by omega⟩⟩⟩)
  · refine sv_go C.1 C.2.1 [(.iload 4, 2)] (pc' := 59) (by decide +kernel) rfl (lv' := [(0, sv_r a), (1, sv_i v), (2, sv_r b), (3, sv_i w), (4, sv_i mm15), (5, sv_i mm28)]) (st' := [sv_i mm15]) rfl ?_
    refine sv_goto C.1 C.2.1 (off := 4) (tgt := 63) (by decide +kernel) (by decide) ?_
    exact sv_iret C hr (by decide +kernel) hok24 (⟨rfl, ⟨_, rfl, ⟨by omega, by omega⟩⟩⟩)

theorem ml_X5_39 : Cond.methodLink RX5 39 yX5_crosses ∈ lw_good := sv_mem 960 (by decide +kernel) rfl
theorem co_X5_crosses : Cond.code yX5_crosses cX5_crosses 4 (some .boolean) ∈ lw_good := sv_mem 963 (by decide +kernel) rfl
theorem im_X5_crosses : Cond.instanceMethod yX5_crosses ∈ lw_good := sv_mem 962 (by decide +kernel) rfl
theorem se_X5_crosses : Cond.selects RX5 yX5_crosses yX5_crosses ∈ lw_good := sv_mem 39 (by decide +kernel) rfl
theorem ml_X5_43 : Cond.methodLink RX5 43 yX5_firstShared ∈ lw_good := sv_mem 964 (by decide +kernel) rfl
theorem co_X5_firstShared : Cond.code yX5_firstShared cX5_firstShared 6 (some .int) ∈ lw_good := sv_mem 967 (by decide +kernel) rfl
theorem im_X5_firstShared : Cond.instanceMethod yX5_firstShared ∈ lw_good := sv_mem 966 (by decide +kernel) rfl
theorem se_X5_firstShared : Cond.selects RX5 yX5_firstShared yX5_firstShared ∈ lw_good := sv_mem 40 (by decide +kernel) rfl
set_option maxHeartbeats 4000000 in
set_option maxRecDepth 100000 in
theorem sf_X5_firstMeeting (l : Launch) (g : sv_G) (A : Nat → Prop) (ty : Nat → Nat) (σ : Nat → Nat → Int) (hok : sv_ok ty σ) (hTA : ∀ q, ty q ≠ 0 → A q) (hI : sv_inv sp_1 ty σ) (a : Nat) (k_a : ty a = 9) (b : Nat) (k_b : ty b = 9) : sv_M l yX5_firstMeeting cX5_firstMeeting 6 (some .int) { frames := 2, cells := 0, slots := 0, locals := 46 } g A ty σ [sv_r a, sv_r b] (fun r σ' => σ = σ' ∧ ∃ rv : Int, r = [sv_i rv] ∧ ((-1) ≤ rv ∧ rv ≤ 2147483647)) := by
  refine sv_enter (by decide) (Nat.le_of_ble_eq_true rfl) ?_
  intro p e s m args below meth c C hr
  have C : sv_C g A RX5 cX5_firstMeeting 6 p s m args meth c := C
  have hr : meth.sig.returnType = (some .int) := hr
  have hF : sv_ofx [] [] ty σ σ := sv_ofx.rf
  refine sv_same (st2 := []) (lv2 := [(0, sv_r a), (1, sv_r b)]) rfl rfl ?_
  refine sv_go C.1 C.2.1 [(.iconst (-1), 1), (.istore_n 2, 1), (.iconst 0, 1), (.istore_n 3, 1)] (pc' := 4) (by decide +kernel) rfl (lv' := [(0, sv_r a), (1, sv_r b), (2, sv_i ((-1))), (3, sv_i 0)]) (st' := []) rfl ?_
  have L2 : ∀ (n : Nat) (Xg1_l2 : Int) (Xg1_l3 : Int), ((-1) ≤ Xg1_l2 ∧ Xg1_l2 ≤ 2147483647) → (0 ≤ Xg1_l3 ∧ Xg1_l3 ≤ 23) → (23 - Xg1_l3) < (n : Int) → sv_E p l e { frames := 2, cells := 0, slots := 0, locals := 46 } s m args below meth c 6 g A ty (fun r σ' => σ = σ' ∧ ∃ rv : Int, r = [sv_i rv] ∧ ((-1) ≤ rv ∧ rv ≤ 2147483647)) σ 4 [(0, sv_r a), (1, sv_r b), (2, sv_i Xg1_l2), (3, sv_i Xg1_l3)] [] := by
    intro n
    induction n with
    | zero => intro Xg1_l2 Xg1_l3 hXg1_l2 hXg1_l3 hmu; exact absurd hmu (by omega)
    | succ n ih3 =>
      intro Xg1_l2 Xg1_l3 hXg1_l2 hXg1_l3 hmu
      refine sv_go C.1 C.2.1 [(.iload_n 3, 1), (.aload_n 0, 1)] (pc' := 6) (by decide +kernel) rfl (lv' := [(0, sv_r a), (1, sv_r b), (2, sv_i Xg1_l2), (3, sv_i Xg1_l3)]) (st' := [sv_r a, sv_i Xg1_l3]) rfl ?_
      refine sv_cv C (index := 28) (k := 0) (rest := [sv_i Xg1_l3]) (ci := 4) (r := (RX5, TX5, 5)) (by decide +kernel) (sf_X5_stretches l g A ty σ hok hTA hI a k_a) ⟨co_X5_stretches, in_X5, ⟨by decide, by decide, by decide +kernel⟩, Nat.le_of_ble_eq_true rfl, Nat.le_of_ble_eq_true rfl⟩ ml_X5_28 im_X5_stretches se_X5_stretches (by rw [k_a]; rfl) rfl rfl rfl (Nat.le_of_ble_eq_true rfl) ⟨Nat.zero_le _, Nat.zero_le _⟩ (fun r5 σ6 hpo4 hok7 => ?_)
      obtain ⟨rfl, ⟨vu8, rfl, hvu8, ivu8_0⟩⟩ := hpo4
      have hp9 := ivu8_0 (by omega) (by omega)
      refine sv_same (st2 := [sv_i vu8, sv_i Xg1_l3]) (lv2 := [(0, sv_r a), (1, sv_r b), (2, sv_i Xg1_l2), (3, sv_i Xg1_l3)]) rfl rfl ?_
      refine sv_icmp C.1 C.2.1 (cnd := .ge) (off := 72) (tgt := 81) (by decide +kernel) (by decide) ⟨by omega, by omega⟩ ⟨by omega, by omega⟩ (fun (h10 : vu8 ≤ Xg1_l3) => ?_) (fun (h10 : ¬ (vu8 ≤ Xg1_l3)) => ?_)
      · refine sv_go C.1 C.2.1 [(.iload_n 2, 1)] (pc' := 82) (by decide +kernel) rfl (lv' := [(0, sv_r a), (1, sv_r b), (2, sv_i Xg1_l2), (3, sv_i Xg1_l3)]) (st' := [sv_i Xg1_l2]) rfl ?_
        exact sv_iret C hr (by decide +kernel) hok7 (⟨rfl, ⟨_, rfl, ⟨by omega, by omega⟩⟩⟩)
      · refine sv_go C.1 C.2.1 [(.iload_n 3, 1), (.iconst 2, 1)] (pc' := 14) (by decide +kernel) rfl (lv' := [(0, sv_r a), (1, sv_r b), (2, sv_i Xg1_l2), (3, sv_i Xg1_l3)]) (st' := [sv_i 2, sv_i Xg1_l3]) rfl ?_
        refine sv_iremP C.1 C.2.1 (by decide +kernel) ⟨by omega, by omega⟩ ⟨by omega, by omega⟩ ?_
        refine sv_go C.1 C.2.1 [(.istore 4, 2)] (pc' := 17) (by decide +kernel) rfl (lv' := [(0, sv_r a), (1, sv_r b), (2, sv_i Xg1_l2), (3, sv_i Xg1_l3), (4, sv_i (Xg1_l3 % 2))]) (st' := []) rfl ?_
        have L12 : ∀ (n : Nat) (Xg11_l2 : Int) (Xg11_l4 : Int), ((-1) ≤ Xg11_l2 ∧ Xg11_l2 ≤ 2147483647) → (0 ≤ Xg11_l4 ∧ Xg11_l4 ≤ 24) → (24 - Xg11_l4) < (n : Int) → sv_E p l e { frames := 2, cells := 0, slots := 0, locals := 46 } s m args below meth c 6 g A ty (fun r σ' => σ = σ' ∧ ∃ rv : Int, r = [sv_i rv] ∧ ((-1) ≤ rv ∧ rv ≤ 2147483647)) σ 17 [(0, sv_r a), (1, sv_r b), (2, sv_i Xg11_l2), (3, sv_i Xg1_l3), (4, sv_i Xg11_l4)] [] := by
          intro n
          induction n with
          | zero => intro Xg11_l2 Xg11_l4 hXg11_l2 hXg11_l4 hmu; exact absurd hmu (by omega)
          | succ n ih13 =>
            intro Xg11_l2 Xg11_l4 hXg11_l2 hXg11_l4 hmu
            refine sv_go C.1 C.2.1 [(.iload 4, 2), (.aload_n 1, 1)] (pc' := 20) (by decide +kernel) rfl (lv' := [(0, sv_r a), (1, sv_r b), (2, sv_i Xg11_l2), (3, sv_i Xg1_l3), (4, sv_i Xg11_l4)]) (st' := [sv_r b, sv_i Xg11_l4]) rfl ?_
            refine sv_cv C (index := 28) (k := 0) (rest := [sv_i Xg11_l4]) (ci := 4) (r := (RX5, TX5, 5)) (by decide +kernel) (sf_X5_stretches l g A ty σ hok7 hTA hI b k_b) ⟨co_X5_stretches, in_X5, ⟨by decide, by decide, by decide +kernel⟩, Nat.le_of_ble_eq_true rfl, Nat.le_of_ble_eq_true rfl⟩ ml_X5_28 im_X5_stretches se_X5_stretches (by rw [k_b]; rfl) rfl rfl rfl (Nat.le_of_ble_eq_true rfl) ⟨Nat.zero_le _, Nat.zero_le _⟩ (fun r15 σ16 hpo14 hok17 => ?_)
            obtain ⟨rfl, ⟨vu18, rfl, hvu18, ivu18_0⟩⟩ := hpo14
            have hp19 := ivu18_0 (by omega) (by omega)
            refine sv_same (st2 := [sv_i vu18, sv_i Xg11_l4]) (lv2 := [(0, sv_r a), (1, sv_r b), (2, sv_i Xg11_l2), (3, sv_i Xg1_l3), (4, sv_i Xg11_l4)]) rfl rfl ?_
            refine sv_icmp C.1 C.2.1 (cnd := .ge) (off := 52) (tgt := 75) (by decide +kernel) (by decide) ⟨by omega, by omega⟩ ⟨by omega, by omega⟩ (fun (h20 : vu18 ≤ Xg11_l4) => ?_) (fun (h20 : ¬ (vu18 ≤ Xg11_l4)) => ?_)
            · refine sv_go C.1 C.2.1 [(.iinc 3 1, 3)] (pc' := 78) (by decide +kernel) rfl (lv' := [(0, sv_r a), (1, sv_r b), (2, sv_i Xg11_l2), (3, sv_i (Xg1_l3 + 1)), (4, sv_i Xg11_l4)]) (st' := []) rfl ?_
              refine sv_goto C.1 C.2.1 (off := (-74)) (tgt := 4) (by decide +kernel) (by decide) ?_
              refine sv_pick [0, 1, 2, 3] (lv2 := [(0, sv_r a), (1, sv_r b), (2, sv_i Xg11_l2), (3, sv_i (Xg1_l3 + 1))]) rfl ?_
              exact ih3 Xg11_l2 (Xg1_l3 + 1) ⟨by omega, by omega⟩ ⟨by omega, by omega⟩ (by omega)
            · refine sv_go C.1 C.2.1 [(.aload_n 0, 1), (.iload_n 3, 1), (.aload_n 1, 1), (.iload 4, 2)] (pc' := 31) (by decide +kernel) rfl (lv' := [(0, sv_r a), (1, sv_r b), (2, sv_i Xg11_l2), (3, sv_i Xg1_l3), (4, sv_i Xg11_l4)]) (st' := [sv_i Xg11_l4, sv_r b, sv_i Xg1_l3, sv_r a]) rfl ?_
              refine sv_cv C (index := 39) (k := 3) (rest := []) (ci := 4) (r := (RX5, TX5, 5)) (by decide +kernel) (sf_X5_crosses l g A ty σ hok17 hTA hI a k_a (Xg1_l3) ⟨by omega, by omega⟩ b k_b (Xg11_l4) ⟨by omega, by omega⟩) ⟨co_X5_crosses, in_X5, ⟨by decide, by decide, by decide +kernel⟩, Nat.le_of_ble_eq_true rfl, Nat.le_of_ble_eq_true rfl⟩ ml_X5_39 im_X5_crosses se_X5_crosses (by rw [k_a]; rfl) rfl rfl rfl (Nat.le_of_ble_eq_true rfl) ⟨Nat.zero_le _, Nat.zero_le _⟩ (fun r22 σ23 hpo21 hok24 => ?_)
              obtain ⟨rfl, ⟨vu25, rfl, hvu25⟩⟩ := hpo21
              refine sv_same (st2 := [sv_i vu25]) (lv2 := [(0, sv_r a), (1, sv_r b), (2, sv_i Xg11_l2), (3, sv_i Xg1_l3), (4, sv_i Xg11_l4)]) rfl rfl ?_
              have J28 : ∀ (Jg27_s0 : Int), ((-2147483648) ≤ Jg27_s0 ∧ Jg27_s0 ≤ 2147483647) → sv_E p l e { frames := 2, cells := 0, slots := 0, locals := 46 } s m args below meth c 6 g A ty (fun r σ' => σ = σ' ∧ ∃ rv : Int, r = [sv_i rv] ∧ ((-1) ≤ rv ∧ rv ≤ 2147483647)) σ 49 [(0, sv_r a), (1, sv_r b), (2, sv_i Xg11_l2), (3, sv_i Xg1_l3), (4, sv_i Xg11_l4)] [sv_i Jg27_s0] := by
                intro Jg27_s0 hJg27_s0
                refine sv_go C.1 C.2.1 [(.istore 5, 2), (.iload 5, 2)] (pc' := 53) (by decide +kernel) rfl (lv' := [(0, sv_r a), (1, sv_r b), (2, sv_i Xg11_l2), (3, sv_i Xg1_l3), (4, sv_i Xg11_l4), (5, sv_i Jg27_s0)]) (st' := [sv_i Jg27_s0]) rfl ?_
                have J31 : ∀ (Jg30_l2 : Int), ((-1) ≤ Jg30_l2 ∧ Jg30_l2 ≤ 2147483647) → sv_E p l e { frames := 2, cells := 0, slots := 0, locals := 46 } s m args below meth c 6 g A ty (fun r σ' => σ = σ' ∧ ∃ rv : Int, r = [sv_i rv] ∧ ((-1) ≤ rv ∧ rv ≤ 2147483647)) σ 69 [(0, sv_r a), (1, sv_r b), (2, sv_i Jg30_l2), (3, sv_i Xg1_l3), (4, sv_i Xg11_l4)] [] := by
                  intro Jg30_l2 hJg30_l2
                  refine sv_go C.1 C.2.1 [(.iinc 4 2, 3)] (pc' := 72) (by decide +kernel) rfl (lv' := [(0, sv_r a), (1, sv_r b), (2, sv_i Jg30_l2), (3, sv_i Xg1_l3), (4, sv_i (Xg11_l4 + 2))]) (st' := []) rfl ?_
                  refine sv_goto C.1 C.2.1 (off := (-55)) (tgt := 17) (by decide +kernel) (by decide) ?_
                  exact ih13 Jg30_l2 (Xg11_l4 + 2) ⟨by omega, by omega⟩ ⟨by omega, by omega⟩ (by omega)
                refine sv_if C.1 C.2.1 (cnd := .lt) (off := 16) (tgt := 69) (by decide +kernel) (by decide) ⟨by omega, by omega⟩ (fun (h29 : Jg27_s0 < 0) => ?_) (fun (h29 : ¬ (Jg27_s0 < 0)) => ?_)
                · refine sv_pick [0, 1, 2, 3, 4] (lv2 := [(0, sv_r a), (1, sv_r b), (2, sv_i Xg11_l2), (3, sv_i Xg1_l3), (4, sv_i Xg11_l4)]) rfl ?_
                  exact J31 Xg11_l2 ⟨by omega, by omega⟩
                · refine sv_go C.1 C.2.1 [(.iload_n 2, 1)] (pc' := 57) (by decide +kernel) rfl (lv' := [(0, sv_r a), (1, sv_r b), (2, sv_i Xg11_l2), (3, sv_i Xg1_l3), (4, sv_i Xg11_l4), (5, sv_i Jg27_s0)]) (st' := [sv_i Xg11_l2]) rfl ?_
                  refine sv_if C.1 C.2.1 (cnd := .lt) (off := 9) (tgt := 66) (by decide +kernel) (by decide) ⟨by omega, by omega⟩ (fun (h32 : Xg11_l2 < 0) => ?_) (fun (h32 : ¬ (Xg11_l2 < 0)) => ?_)
                  · refine sv_go C.1 C.2.1 [(.iload 5, 2), (.istore_n 2, 1)] (pc' := 69) (by decide +kernel) rfl (lv' := [(0, sv_r a), (1, sv_r b), (2, sv_i Jg27_s0), (3, sv_i Xg1_l3), (4, sv_i Xg11_l4), (5, sv_i Jg27_s0)]) (st' := []) rfl ?_
                    refine sv_pick [0, 1, 2, 3, 4] (lv2 := [(0, sv_r a), (1, sv_r b), (2, sv_i Jg27_s0), (3, sv_i Xg1_l3), (4, sv_i Xg11_l4)]) rfl ?_
                    exact J31 Jg27_s0 ⟨by omega, by omega⟩
                  · refine sv_go C.1 C.2.1 [(.iload 5, 2), (.iload_n 2, 1)] (pc' := 63) (by decide +kernel) rfl (lv' := [(0, sv_r a), (1, sv_r b), (2, sv_i Xg11_l2), (3, sv_i Xg1_l3), (4, sv_i Xg11_l4), (5, sv_i Jg27_s0)]) (st' := [sv_i Xg11_l2, sv_i Jg27_s0]) rfl ?_
                    refine sv_icmp C.1 C.2.1 (cnd := .ge) (off := 6) (tgt := 69) (by decide +kernel) (by decide) ⟨by omega, by omega⟩ ⟨by omega, by omega⟩ (fun (h33 : Xg11_l2 ≤ Jg27_s0) => ?_) (fun (h33 : ¬ (Xg11_l2 ≤ Jg27_s0)) => ?_)
                    · refine sv_pick [0, 1, 2, 3, 4] (lv2 := [(0, sv_r a), (1, sv_r b), (2, sv_i Xg11_l2), (3, sv_i Xg1_l3), (4, sv_i Xg11_l4)]) rfl ?_
                      exact J31 Xg11_l2 ⟨by omega, by omega⟩
                    · refine sv_go C.1 C.2.1 [(.iload 5, 2), (.istore_n 2, 1)] (pc' := 69) (by decide +kernel) rfl (lv' := [(0, sv_r a), (1, sv_r b), (2, sv_i Jg27_s0), (3, sv_i Xg1_l3), (4, sv_i Xg11_l4), (5, sv_i Jg27_s0)]) (st' := []) rfl ?_
                      refine sv_pick [0, 1, 2, 3, 4] (lv2 := [(0, sv_r a), (1, sv_r b), (2, sv_i Jg27_s0), (3, sv_i Xg1_l3), (4, sv_i Xg11_l4)]) rfl ?_
                      exact J31 Jg27_s0 ⟨by omega, by omega⟩
              refine sv_if C.1 C.2.1 (cnd := .eq) (off := 14) (tgt := 48) (by decide +kernel) (by decide) ⟨by omega, by omega⟩ (fun (h26 : vu25 = 0) => ?_) (fun (h26 : ¬ (vu25 = 0)) => ?_)
              · refine sv_go C.1 C.2.1 [(.iconst (-1), 1)] (pc' := 49) (by decide +kernel) rfl (lv' := [(0, sv_r a), (1, sv_r b), (2, sv_i Xg11_l2), (3, sv_i Xg1_l3), (4, sv_i Xg11_l4)]) (st' := [sv_i ((-1))]) rfl ?_
                exact J28 ((-1)) ⟨by omega, by omega⟩
              · refine sv_go C.1 C.2.1 [(.aload_n 0, 1), (.iload_n 3, 1), (.aload_n 1, 1), (.iload 4, 2)] (pc' := 42) (by decide +kernel) rfl (lv' := [(0, sv_r a), (1, sv_r b), (2, sv_i Xg11_l2), (3, sv_i Xg1_l3), (4, sv_i Xg11_l4)]) (st' := [sv_i Xg11_l4, sv_r b, sv_i Xg1_l3, sv_r a]) rfl ?_
                refine sv_cv C (index := 43) (k := 3) (rest := []) (ci := 4) (r := (RX5, TX5, 5)) (by decide +kernel) (sf_X5_firstShared l g A ty σ hok24 hTA hI a k_a (Xg1_l3) ⟨by omega, by omega⟩ b k_b (Xg11_l4) ⟨by omega, by omega⟩) ⟨co_X5_firstShared, in_X5, ⟨by decide, by decide, by decide +kernel⟩, Nat.le_of_ble_eq_true rfl, Nat.le_of_ble_eq_true rfl⟩ ml_X5_43 im_X5_firstShared se_X5_firstShared (by rw [k_a]; rfl) rfl rfl rfl (Nat.le_of_ble_eq_true rfl) ⟨Nat.zero_le _, Nat.zero_le _⟩ (fun r35 σ36 hpo34 hok37 => ?_)
                obtain ⟨rfl, ⟨vu38, rfl, hvu38⟩⟩ := hpo34
                refine sv_same (st2 := [sv_i vu38]) (lv2 := [(0, sv_r a), (1, sv_r b), (2, sv_i Xg11_l2), (3, sv_i Xg1_l3), (4, sv_i Xg11_l4)]) rfl rfl ?_
                refine sv_goto C.1 C.2.1 (off := 4) (tgt := 49) (by decide +kernel) (by decide) ?_
                exact J28 vu38 ⟨by omega, by omega⟩
        exact L12 (((24 - (Xg1_l3 % 2) : Int)).toNat + 1) Xg1_l2 (Xg1_l3 % 2) ⟨by omega, by omega⟩ ⟨by omega, by omega⟩ (by omega)
  exact L2 (((23 - 0 : Int)).toNat + 1) ((-1)) 0 ⟨by omega, by omega⟩ ⟨by omega, by omega⟩ (by omega)

set_option maxHeartbeats 4000000 in
set_option maxRecDepth 100000 in
theorem sf_X5_addHindrance (l : Launch) (g : sv_G) (A : Nat → Prop) (ty : Nat → Nat) (σ : Nat → Nat → Int) (hok : sv_ok ty σ) (hTA : ∀ q, ty q ≠ 0 → A q) (hI : sv_inv sp_1 ty σ) (b : Nat) (k_b : ty b = 39) (v : Int) (h_v : (-2147483648) ≤ v ∧ v ≤ 2147483647) (w : Int) (h_w : (-2147483648) ≤ w ∧ w ≤ 1440) : sv_M l yX5_addHindrance cX5_addHindrance 3 none { frames := 0, cells := 0, slots := 0, locals := 0 } g A ty σ [sv_r b, sv_i v, sv_i w] (fun r σ' => (r = []) ∧ sv_inv sp_1 ty σ' ∧ sv_ofx [] [39] ty σ σ') := by
  refine sv_enter (by decide) (Nat.le_of_ble_eq_true rfl) ?_
  intro p e s m args below meth c C hr
  have C : sv_C g A RX5 cX5_addHindrance 3 p s m args meth c := C
  have hr : meth.sig.returnType = none := hr
  have hF : sv_ofx [] [39] ty σ σ := sv_ofx.rf
  refine sv_same (st2 := []) (lv2 := [(0, sv_r b), (1, sv_i v), (2, sv_i w)]) rfl rfl ?_
  refine sv_go C.1 C.2.1 [(.iload_n 1, 1)] (pc' := 1) (by decide +kernel) rfl (lv' := [(0, sv_r b), (1, sv_i v), (2, sv_i w)]) (st' := [sv_i v]) rfl ?_
  refine sv_if C.1 C.2.1 (cnd := .lt) (off := 32) (tgt := 33) (by decide +kernel) (by decide) ⟨by omega, by omega⟩ (fun (h1 : v < 0) => ?_) (fun (h1 : ¬ (v < 0)) => ?_)
  · exact sv_vret C hr (by decide +kernel) hok (⟨rfl, hI, hF⟩)
  · refine sv_go C.1 C.2.1 [(.iload_n 1, 1), (.iload_n 2, 1)] (pc' := 6) (by decide +kernel) rfl (lv' := [(0, sv_r b), (1, sv_i v), (2, sv_i w)]) (st' := [sv_i w, sv_i v]) rfl ?_
    refine sv_icmp C.1 C.2.1 (cnd := .gt) (off := 27) (tgt := 33) (by decide +kernel) (by decide) ⟨by omega, by omega⟩ ⟨by omega, by omega⟩ (fun (h2 : w < v) => ?_) (fun (h2 : ¬ (w < v)) => ?_)
    · exact sv_vret C hr (by decide +kernel) hok (⟨rfl, hI, hF⟩)
    · refine sv_go C.1 C.2.1 [(.iload_n 2, 1), (.iconst 1, 1), (.iadd, 1), (.aload_n 0, 1)] (pc' := 13) (by decide +kernel) rfl (lv' := [(0, sv_r b), (1, sv_i v), (2, sv_i w)]) (st' := [sv_r b, sv_i (w + 1)]) rfl ?_
      refine sv_al C (n := 1442) (t := .int) (Or.inl rfl) (by decide +kernel) (by rw [k_b]; rfl) ?_
      refine sv_same (st2 := [sv_i 1442, sv_i (w + 1)]) (lv2 := [(0, sv_r b), (1, sv_i v), (2, sv_i w)]) rfl rfl ?_
      refine sv_icmp_f C.1 C.2.1 (cnd := .ge) (off := 19) (tgt := 33) (by decide +kernel) (by decide) ⟨by omega, by omega⟩ ⟨by omega, by omega⟩ (show ¬ (1442 ≤ (w + 1)) by omega) ?_
      refine sv_go C.1 C.2.1 [(.aload_n 0, 1), (.iload_n 1, 1), (.dup2, 1)] (pc' := 20) (by decide +kernel) rfl (lv' := [(0, sv_r b), (1, sv_i v), (2, sv_i w)]) (st' := [sv_i v, sv_r b, sv_i v, sv_r b]) rfl ?_
      refine sv_ia C (n := 1442) (by decide +kernel) (by rw [k_b]; rfl) (by decide) (by omega) (by omega) ?_
      obtain ⟨v3, ev3, hv3⟩ := sv_rde hok (a := b) (k := (v : Int).toNat) (n := 1442) (by rw [k_b]; rfl) (by omega)
      rw [ev3]
      refine sv_go C.1 C.2.1 [(.iconst 1, 1), (.iadd, 1)] (pc' := 23) (by decide +kernel) rfl (lv' := [(0, sv_r b), (1, sv_i v), (2, sv_i w)]) (st' := [sv_i (v3 + 1), sv_i v, sv_r b]) rfl ?_
      obtain ⟨w4, hw4, ew4⟩ := sv_wr (v3 + 1)
      refine sv_sameD (st2 := [sv_i w4, sv_i v, sv_r b]) (lv2 := [(0, sv_r b), (1, sv_i v), (2, sv_i w)]) (by simp only [List.map_cons, List.map_nil, sv_den_i, ew4]) rfl ?_
      refine sv_is C (n := 1442) (by decide +kernel) (by rw [k_b]; rfl) (by decide) (by omega) (by omega) ⟨by omega, by omega⟩ (hTA _ (by rw [k_b]; decide)) hok (fun hok5 => ?_)
      have hI7 := hI.up (a := b) (k := (v : Int).toNat) (z := w4) (by rw [k_b]; exact trivial)
      have hF8 := hF.up (a := b) (k := (v : Int).toNat) (z := w4) (Or.inl (by rw [k_b]; decide))
      generalize eσ6 : sv_up σ b (v : Int).toNat w4 = σ6 at hok5 hI7 hF8 ⊢
      have t10 : σ6 b (v : Int).toNat = w4 := by rw [← eσ6]; exact sv_up_s _ _ _ _
      refine sv_go C.1 C.2.1 [(.aload_n 0, 1), (.iload_n 2, 1), (.iconst 1, 1), (.iadd, 1), (.dup2, 1)] (pc' := 29) (by decide +kernel) rfl (lv' := [(0, sv_r b), (1, sv_i v), (2, sv_i w)]) (st' := [sv_i (w + 1), sv_r b, sv_i (w + 1), sv_r b]) rfl ?_
      refine sv_ia C (n := 1442) (by decide +kernel) (by rw [k_b]; rfl) (by decide) (by omega) (by omega) ?_
      obtain ⟨v11, ev11, hv11⟩ := sv_rde hok5 (a := b) (k := (w + 1 : Int).toNat) (n := 1442) (by rw [k_b]; rfl) (by omega)
      rw [ev11]
      refine sv_go C.1 C.2.1 [(.iconst 1, 1), (.isub, 1)] (pc' := 32) (by decide +kernel) rfl (lv' := [(0, sv_r b), (1, sv_i v), (2, sv_i w)]) (st' := [sv_i (v11 - 1), sv_i (w + 1), sv_r b]) rfl ?_
      obtain ⟨w12, hw12, ew12⟩ := sv_wr (v11 - 1)
      refine sv_sameD (st2 := [sv_i w12, sv_i (w + 1), sv_r b]) (lv2 := [(0, sv_r b), (1, sv_i v), (2, sv_i w)]) (by simp only [List.map_cons, List.map_nil, sv_den_i, ew12]) rfl ?_
      refine sv_is C (n := 1442) (by decide +kernel) (by rw [k_b]; rfl) (by decide) (by omega) (by omega) ⟨by omega, by omega⟩ (hTA _ (by rw [k_b]; decide)) hok5 (fun hok13 => ?_)
      have hI15 := hI7.up (a := b) (k := (w + 1 : Int).toNat) (z := w12) (by rw [k_b]; exact trivial)
      have hF16 := hF8.up (a := b) (k := (w + 1 : Int).toNat) (z := w12) (Or.inl (by rw [k_b]; decide))
      generalize eσ14 : sv_up σ6 b (w + 1 : Int).toNat w12 = σ14 at hok13 hI15 hF16 ⊢
      have t19 : σ14 b (w + 1 : Int).toNat = w12 := by rw [← eσ14]; exact sv_up_s _ _ _ _
      exact sv_vret C hr (by decide +kernel) hok13 (⟨rfl, hI15, hF16⟩)

theorem ml_X5_59 : Cond.methodLink RX5 59 yX5_addHindrance ∈ lw_good := sv_mem 988 (by decide +kernel) rfl
theorem co_X5_addHindrance : Cond.code yX5_addHindrance cX5_addHindrance 3 none ∈ lw_good := sv_mem 990 (by decide +kernel) rfl
theorem st_X5_addHindrance : Cond.static yX5_addHindrance ∈ lw_good := sv_mem 989 (by decide +kernel) rfl
set_option maxHeartbeats 4000000 in
set_option maxRecDepth 100000 in
theorem sf_X5_addHindrances (l : Launch) (g : sv_G) (A : Nat → Prop) (ty : Nat → Nat) (σ : Nat → Nat → Int) (hok : sv_ok ty σ) (hTA : ∀ q, ty q ≠ 0 → A q) (hI : sv_inv sp_1 ty σ) (a : Nat) (k_a : ty a = 9) (b : Nat) (k_b : ty b = 9) (h : Nat) (k_h : ty h = 39) : sv_M l yX5_addHindrances cX5_addHindrances 7 none { frames := 1, cells := 0, slots := 0, locals := 23 } g A ty σ [sv_r a, sv_r b, sv_r h] (fun r σ' => (r = []) ∧ sv_inv sp_1 ty σ' ∧ sv_ofx [] [39] ty σ σ') := by
  refine sv_enter (by decide) (Nat.le_of_ble_eq_true rfl) ?_
  intro p e s m args below meth c C hr
  have C : sv_C g A RX5 cX5_addHindrances 7 p s m args meth c := C
  have hr : meth.sig.returnType = none := hr
  have hF : sv_ofx [] [39] ty σ σ := sv_ofx.rf
  refine sv_same (st2 := []) (lv2 := [(0, sv_r a), (1, sv_r b), (2, sv_r h)]) rfl rfl ?_
  refine sv_go C.1 C.2.1 [(.iconst 0, 1), (.istore_n 3, 1)] (pc' := 2) (by decide +kernel) rfl (lv' := [(0, sv_r a), (1, sv_r b), (2, sv_r h), (3, sv_i 0)]) (st' := []) rfl ?_
  have L3 : ∀ (n : Nat) (Xg1_l3 : Int) (σ2 : Nat → Nat → Int), (0 ≤ Xg1_l3 ∧ Xg1_l3 ≤ 23) → (sv_ok ty σ2) → (sv_inv sp_1 ty σ2) → (sv_ofx [] [39] ty σ σ2) → (23 - Xg1_l3) < (n : Int) → sv_E p l e { frames := 1, cells := 0, slots := 0, locals := 23 } s m args below meth c 7 g A ty (fun r σ' => (r = []) ∧ sv_inv sp_1 ty σ' ∧ sv_ofx [] [39] ty σ σ') σ2 2 [(0, sv_r a), (1, sv_r b), (2, sv_r h), (3, sv_i Xg1_l3)] [] := by
    intro n
    induction n with
    | zero => intro Xg1_l3 σ2 hXg1_l3 okσ2 Iσ2 Fσ2 hmu; exact absurd hmu (by omega)
    | succ n ih4 =>
      intro Xg1_l3 σ2 hXg1_l3 okσ2 Iσ2 Fσ2 hmu
      refine sv_go C.1 C.2.1 [(.iload_n 3, 1), (.aload_n 0, 1)] (pc' := 4) (by decide +kernel) rfl (lv' := [(0, sv_r a), (1, sv_r b), (2, sv_r h), (3, sv_i Xg1_l3)]) (st' := [sv_r a, sv_i Xg1_l3]) rfl ?_
      refine sv_cv C (index := 28) (k := 0) (rest := [sv_i Xg1_l3]) (ci := 4) (r := (RX5, TX5, 5)) (by decide +kernel) (sf_X5_stretches l g A ty σ2 okσ2 hTA Iσ2 a k_a) ⟨co_X5_stretches, in_X5, ⟨by decide, by decide, by decide +kernel⟩, Nat.le_of_ble_eq_true rfl, Nat.le_of_ble_eq_true rfl⟩ ml_X5_28 im_X5_stretches se_X5_stretches (by rw [k_a]; rfl) rfl rfl rfl (Nat.le_of_ble_eq_true rfl) ⟨Nat.zero_le _, Nat.zero_le _⟩ (fun r6 σ7 hpo5 hok8 => ?_)
      obtain ⟨rfl, ⟨vu9, rfl, hvu9, ivu9_0⟩⟩ := hpo5
      have hp10 := ivu9_0 (by omega) (by omega)
      refine sv_same (st2 := [sv_i vu9, sv_i Xg1_l3]) (lv2 := [(0, sv_r a), (1, sv_r b), (2, sv_r h), (3, sv_i Xg1_l3)]) rfl rfl ?_
      refine sv_icmp C.1 C.2.1 (cnd := .ge) (off := 96) (tgt := 103) (by decide +kernel) (by decide) ⟨by omega, by omega⟩ ⟨by omega, by omega⟩ (fun (h11 : vu9 ≤ Xg1_l3) => ?_) (fun (h11 : ¬ (vu9 ≤ Xg1_l3)) => ?_)
      · exact sv_vret C hr (by decide +kernel) hok8 (⟨rfl, Iσ2, Fσ2⟩)
      · refine sv_go C.1 C.2.1 [(.iload_n 3, 1), (.iconst 2, 1)] (pc' := 12) (by decide +kernel) rfl (lv' := [(0, sv_r a), (1, sv_r b), (2, sv_r h), (3, sv_i Xg1_l3)]) (st' := [sv_i 2, sv_i Xg1_l3]) rfl ?_
        refine sv_iremP C.1 C.2.1 (by decide +kernel) ⟨by omega, by omega⟩ ⟨by omega, by omega⟩ ?_
        refine sv_go C.1 C.2.1 [(.istore 4, 2)] (pc' := 15) (by decide +kernel) rfl (lv' := [(0, sv_r a), (1, sv_r b), (2, sv_r h), (3, sv_i Xg1_l3), (4, sv_i (Xg1_l3 % 2))]) (st' := []) rfl ?_
        have L14 : ∀ (n : Nat) (Xg12_l4 : Int) (σ13 : Nat → Nat → Int), (0 ≤ Xg12_l4 ∧ Xg12_l4 ≤ 24) → (sv_ok ty σ13) → (sv_inv sp_1 ty σ13) → (sv_ofx [] [39] ty σ σ13) → (24 - Xg12_l4) < (n : Int) → sv_E p l e { frames := 1, cells := 0, slots := 0, locals := 23 } s m args below meth c 7 g A ty (fun r σ' => (r = []) ∧ sv_inv sp_1 ty σ' ∧ sv_ofx [] [39] ty σ σ') σ13 15 [(0, sv_r a), (1, sv_r b), (2, sv_r h), (3, sv_i Xg1_l3), (4, sv_i Xg12_l4)] [] := by
          intro n
          induction n with
          | zero => intro Xg12_l4 σ13 hXg12_l4 okσ13 Iσ13 Fσ13 hmu; exact absurd hmu (by omega)
          | succ n ih15 =>
            intro Xg12_l4 σ13 hXg12_l4 okσ13 Iσ13 Fσ13 hmu
            refine sv_go C.1 C.2.1 [(.iload 4, 2), (.aload_n 1, 1)] (pc' := 18) (by decide +kernel) rfl (lv' := [(0, sv_r a), (1, sv_r b), (2, sv_r h), (3, sv_i Xg1_l3), (4, sv_i Xg12_l4)]) (st' := [sv_r b, sv_i Xg12_l4]) rfl ?_
            refine sv_cv C (index := 28) (k := 0) (rest := [sv_i Xg12_l4]) (ci := 4) (r := (RX5, TX5, 5)) (by decide +kernel) (sf_X5_stretches l g A ty σ13 okσ13 hTA Iσ13 b k_b) ⟨co_X5_stretches, in_X5, ⟨by decide, by decide, by decide +kernel⟩, Nat.le_of_ble_eq_true rfl, Nat.le_of_ble_eq_true rfl⟩ ml_X5_28 im_X5_stretches se_X5_stretches (by rw [k_b]; rfl) rfl rfl rfl (Nat.le_of_ble_eq_true rfl) ⟨Nat.zero_le _, Nat.zero_le _⟩ (fun r17 σ18 hpo16 hok19 => ?_)
            obtain ⟨rfl, ⟨vu20, rfl, hvu20, ivu20_0⟩⟩ := hpo16
            have hp21 := ivu20_0 (by omega) (by omega)
            refine sv_same (st2 := [sv_i vu20, sv_i Xg12_l4]) (lv2 := [(0, sv_r a), (1, sv_r b), (2, sv_r h), (3, sv_i Xg1_l3), (4, sv_i Xg12_l4)]) rfl rfl ?_
            refine sv_icmp C.1 C.2.1 (cnd := .ge) (off := 76) (tgt := 97) (by decide +kernel) (by decide) ⟨by omega, by omega⟩ ⟨by omega, by omega⟩ (fun (h22 : vu20 ≤ Xg12_l4) => ?_) (fun (h22 : ¬ (vu20 ≤ Xg12_l4)) => ?_)
            · refine sv_go C.1 C.2.1 [(.iinc 3 1, 3)] (pc' := 100) (by decide +kernel) rfl (lv' := [(0, sv_r a), (1, sv_r b), (2, sv_r h), (3, sv_i (Xg1_l3 + 1)), (4, sv_i Xg12_l4)]) (st' := []) rfl ?_
              refine sv_goto C.1 C.2.1 (off := (-98)) (tgt := 2) (by decide +kernel) (by decide) ?_
              refine sv_pick [0, 1, 2, 3] (lv2 := [(0, sv_r a), (1, sv_r b), (2, sv_r h), (3, sv_i (Xg1_l3 + 1))]) rfl ?_
              exact ih4 (Xg1_l3 + 1) σ13 ⟨by omega, by omega⟩ hok19 Iσ13 Fσ13 (by omega)
            · refine sv_go C.1 C.2.1 [(.aload_n 0, 1), (.iload_n 3, 1), (.aload_n 1, 1), (.iload 4, 2)] (pc' := 29) (by decide +kernel) rfl (lv' := [(0, sv_r a), (1, sv_r b), (2, sv_r h), (3, sv_i Xg1_l3), (4, sv_i Xg12_l4)]) (st' := [sv_i Xg12_l4, sv_r b, sv_i Xg1_l3, sv_r a]) rfl ?_
              refine sv_cv C (index := 39) (k := 3) (rest := []) (ci := 4) (r := (RX5, TX5, 5)) (by decide +kernel) (sf_X5_crosses l g A ty σ13 hok19 hTA Iσ13 a k_a (Xg1_l3) ⟨by omega, by omega⟩ b k_b (Xg12_l4) ⟨by omega, by omega⟩) ⟨co_X5_crosses, in_X5, ⟨by decide, by decide, by decide +kernel⟩, Nat.le_of_ble_eq_true rfl, Nat.le_of_ble_eq_true rfl⟩ ml_X5_39 im_X5_crosses se_X5_crosses (by rw [k_a]; rfl) rfl rfl rfl (Nat.le_of_ble_eq_true rfl) ⟨Nat.zero_le _, Nat.zero_le _⟩ (fun r24 σ25 hpo23 hok26 => ?_)
              obtain ⟨rfl, ⟨vu27, rfl, hvu27⟩⟩ := hpo23
              refine sv_same (st2 := [sv_i vu27]) (lv2 := [(0, sv_r a), (1, sv_r b), (2, sv_r h), (3, sv_i Xg1_l3), (4, sv_i Xg12_l4)]) rfl rfl ?_
              have J31 : ∀  (σ30 : Nat → Nat → Int), (sv_ok ty σ30) → (sv_inv sp_1 ty σ30) → (sv_ofx [] [39] ty σ σ30) → sv_E p l e { frames := 1, cells := 0, slots := 0, locals := 23 } s m args below meth c 7 g A ty (fun r σ' => (r = []) ∧ sv_inv sp_1 ty σ' ∧ sv_ofx [] [39] ty σ σ') σ30 91 [(0, sv_r a), (1, sv_r b), (2, sv_r h), (3, sv_i Xg1_l3), (4, sv_i Xg12_l4)] [] := by
                intro σ30 okσ30 Iσ30 Fσ30
                refine sv_go C.1 C.2.1 [(.iinc 4 2, 3)] (pc' := 94) (by decide +kernel) rfl (lv' := [(0, sv_r a), (1, sv_r b), (2, sv_r h), (3, sv_i Xg1_l3), (4, sv_i (Xg12_l4 + 2))]) (st' := []) rfl ?_
                refine sv_goto C.1 C.2.1 (off := (-79)) (tgt := 15) (by decide +kernel) (by decide) ?_
                exact ih15 (Xg12_l4 + 2) σ30 ⟨by omega, by omega⟩ okσ30 Iσ30 Fσ30 (by omega)
              refine sv_if C.1 C.2.1 (cnd := .eq) (off := 59) (tgt := 91) (by decide +kernel) (by decide) ⟨by omega, by omega⟩ (fun (h28 : vu27 = 0) => ?_) (fun (h28 : ¬ (vu27 = 0)) => ?_)
              · exact J31 σ13 hok26 Iσ13 Fσ13
              · refine sv_go C.1 C.2.1 [(.aload_n 1, 1)] (pc' := 36) (by decide +kernel) rfl (lv' := [(0, sv_r a), (1, sv_r b), (2, sv_r h), (3, sv_i Xg1_l3), (4, sv_i Xg12_l4)]) (st' := [sv_r b]) rfl ?_
                obtain ⟨v32, ev32, hv32⟩ := sv_rdn Iσ13 (k := 1) k_b rfl
                refine sv_gf C (index := 22) (ci := 4) (k := 1) (r := (RX5, TX5, 5)) (v := sv_i v32) (by decide +kernel) (by rw [k_b]; rfl) rfl (by decide) fl_X5_22 (congrArg sv_i ev32) ?_
                refine sv_go C.1 C.2.1 [(.aload_n 1, 1), (.iload 4, 2)] (pc' := 42) (by decide +kernel) rfl (lv' := [(0, sv_r a), (1, sv_r b), (2, sv_r h), (3, sv_i Xg1_l3), (4, sv_i Xg12_l4)]) (st' := [sv_i Xg12_l4, sv_r b, sv_i v32]) rfl ?_
                refine sv_cv C (index := 32) (k := 1) (rest := [sv_i v32]) (ci := 4) (r := (RX5, TX5, 5)) (by decide +kernel) (sf_X5_comes l g A ty σ13 hok26 hTA Iσ13 b k_b (Xg12_l4) ⟨by omega, by omega⟩) ⟨co_X5_comes, in_X5, ⟨by decide, by decide, by decide +kernel⟩, Nat.le_of_ble_eq_true rfl, Nat.le_of_ble_eq_true rfl⟩ ml_X5_32 im_X5_comes se_X5_comes (by rw [k_b]; rfl) rfl rfl rfl (Nat.le_of_ble_eq_true rfl) ⟨Nat.zero_le _, Nat.zero_le _⟩ (fun r34 σ35 hpo33 hok36 => ?_)
                obtain ⟨rfl, ⟨vu37, rfl, hvu37⟩⟩ := hpo33
                refine sv_same (st2 := [sv_i vu37, sv_i v32]) (lv2 := [(0, sv_r a), (1, sv_r b), (2, sv_r h), (3, sv_i Xg1_l3), (4, sv_i Xg12_l4)]) rfl rfl ?_
                refine sv_go C.1 C.2.1 [(.iadd, 1), (.aload_n 0, 1), (.iload_n 3, 1)] (pc' := 48) (by decide +kernel) rfl (lv' := [(0, sv_r a), (1, sv_r b), (2, sv_r h), (3, sv_i Xg1_l3), (4, sv_i Xg12_l4)]) (st' := [sv_i Xg1_l3, sv_r a, sv_i (v32 + vu37)]) rfl ?_
                refine sv_cv C (index := 53) (k := 1) (rest := [sv_i (v32 + vu37)]) (ci := 4) (r := (RX5, TX5, 5)) (by decide +kernel) (sf_X5_leaves l g A ty σ13 hok36 hTA Iσ13 a k_a (Xg1_l3) ⟨by omega, by omega⟩) ⟨co_X5_leaves, in_X5, ⟨by decide, by decide, by decide +kernel⟩, Nat.le_of_ble_eq_true rfl, Nat.le_of_ble_eq_true rfl⟩ ml_X5_53 im_X5_leaves se_X5_leaves (by rw [k_a]; rfl) rfl rfl rfl (Nat.le_of_ble_eq_true rfl) ⟨Nat.zero_le _, Nat.zero_le _⟩ (fun r39 σ40 hpo38 hok41 => ?_)
                obtain ⟨rfl, ⟨vu42, rfl, hvu42⟩⟩ := hpo38
                refine sv_same (st2 := [sv_i vu42, sv_i (v32 + vu37)]) (lv2 := [(0, sv_r a), (1, sv_r b), (2, sv_r h), (3, sv_i Xg1_l3), (4, sv_i Xg12_l4)]) rfl rfl ?_
                refine sv_go C.1 C.2.1 [(.isub, 1), (.istore 5, 2), (.aload_n 1, 1)] (pc' := 55) (by decide +kernel) rfl (lv' := [(0, sv_r a), (1, sv_r b), (2, sv_r h), (3, sv_i Xg1_l3), (4, sv_i Xg12_l4), (5, sv_i ((v32 + vu37) - vu42))]) (st' := [sv_r b]) rfl ?_
                refine sv_gf C (index := 22) (ci := 4) (k := 1) (r := (RX5, TX5, 5)) (v := sv_i v32) (by decide +kernel) (by rw [k_b]; rfl) rfl (by decide) fl_X5_22 (congrArg sv_i ev32) ?_
                refine sv_go C.1 C.2.1 [(.aload_n 1, 1), (.iload 4, 2)] (pc' := 61) (by decide +kernel) rfl (lv' := [(0, sv_r a), (1, sv_r b), (2, sv_r h), (3, sv_i Xg1_l3), (4, sv_i Xg12_l4), (5, sv_i ((v32 + vu37) - vu42))]) (st' := [sv_i Xg12_l4, sv_r b, sv_i v32]) rfl ?_
                refine sv_cv C (index := 53) (k := 1) (rest := [sv_i v32]) (ci := 4) (r := (RX5, TX5, 5)) (by decide +kernel) (sf_X5_leaves l g A ty σ13 hok41 hTA Iσ13 b k_b (Xg12_l4) ⟨by omega, by omega⟩) ⟨co_X5_leaves, in_X5, ⟨by decide, by decide, by decide +kernel⟩, Nat.le_of_ble_eq_true rfl, Nat.le_of_ble_eq_true rfl⟩ ml_X5_53 im_X5_leaves se_X5_leaves (by rw [k_b]; rfl) rfl rfl rfl (Nat.le_of_ble_eq_true rfl) ⟨Nat.zero_le _, Nat.zero_le _⟩ (fun r44 σ45 hpo43 hok46 => ?_)
                obtain ⟨rfl, ⟨vu47, rfl, hvu47⟩⟩ := hpo43
                refine sv_same (st2 := [sv_i vu47, sv_i v32]) (lv2 := [(0, sv_r a), (1, sv_r b), (2, sv_r h), (3, sv_i Xg1_l3), (4, sv_i Xg12_l4), (5, sv_i ((v32 + vu37) - vu42))]) rfl rfl ?_
                refine sv_go C.1 C.2.1 [(.iadd, 1), (.aload_n 0, 1), (.iload_n 3, 1)] (pc' := 67) (by decide +kernel) rfl (lv' := [(0, sv_r a), (1, sv_r b), (2, sv_r h), (3, sv_i Xg1_l3), (4, sv_i Xg12_l4), (5, sv_i ((v32 + vu37) - vu42))]) (st' := [sv_i Xg1_l3, sv_r a, sv_i (v32 + vu47)]) rfl ?_
                refine sv_cv C (index := 32) (k := 1) (rest := [sv_i (v32 + vu47)]) (ci := 4) (r := (RX5, TX5, 5)) (by decide +kernel) (sf_X5_comes l g A ty σ13 hok46 hTA Iσ13 a k_a (Xg1_l3) ⟨by omega, by omega⟩) ⟨co_X5_comes, in_X5, ⟨by decide, by decide, by decide +kernel⟩, Nat.le_of_ble_eq_true rfl, Nat.le_of_ble_eq_true rfl⟩ ml_X5_32 im_X5_comes se_X5_comes (by rw [k_a]; rfl) rfl rfl rfl (Nat.le_of_ble_eq_true rfl) ⟨Nat.zero_le _, Nat.zero_le _⟩ (fun r49 σ50 hpo48 hok51 => ?_)
                obtain ⟨rfl, ⟨vu52, rfl, hvu52⟩⟩ := hpo48
                refine sv_same (st2 := [sv_i vu52, sv_i (v32 + vu47)]) (lv2 := [(0, sv_r a), (1, sv_r b), (2, sv_r h), (3, sv_i Xg1_l3), (4, sv_i Xg12_l4), (5, sv_i ((v32 + vu37) - vu42))]) rfl rfl ?_
                refine sv_go C.1 C.2.1 [(.isub, 1), (.istore 6, 2), (.aload_n 2, 1), (.iconst 0, 1), (.iload 5, 2)] (pc' := 77) (by decide +kernel) rfl (lv' := [(0, sv_r a), (1, sv_r b), (2, sv_r h), (3, sv_i Xg1_l3), (4, sv_i Xg12_l4), (5, sv_i ((v32 + vu37) - vu42)), (6, sv_i ((v32 + vu47) - vu52))]) (st' := [sv_i ((v32 + vu37) - vu42), sv_i 0, sv_r h]) rfl ?_
                obtain ⟨w53, hw53, ew53⟩ := sv_wr ((v32 + vu37) - vu42)
                refine sv_sameD (st2 := [sv_i w53, sv_i 0, sv_r h]) (lv2 := [(0, sv_r a), (1, sv_r b), (2, sv_r h), (3, sv_i Xg1_l3), (4, sv_i Xg12_l4), (5, sv_i ((v32 + vu37) - vu42)), (6, sv_i ((v32 + vu47) - vu52))]) (by simp only [List.map_cons, List.map_nil, sv_den_i, ew53]) rfl ?_
                refine sv_max C (index := 47) (by decide +kernel) ml_X5_47 ⟨by omega, by omega⟩ ⟨by omega, by omega⟩ (Nat.le_of_ble_eq_true rfl) (Nat.le_of_ble_eq_true rfl) ⟨Nat.zero_le _, Nat.zero_le _⟩ ?_
                obtain ⟨mm54, hmm54⟩ : ∃ q : Int, q = (if (0 : Int) < w53 then w53 else 0) := ⟨_, rfl⟩
                refine sv_same (st2 := [sv_i mm54, sv_r h]) (lv2 := [(0, sv_r a), (1, sv_r b), (2, sv_r h), (3, sv_i Xg1_l3), (4, sv_i Xg12_l4), (5, sv_i ((v32 + vu37) - vu42)), (6, sv_i ((v32 + vu47) - vu52))]) (by rw [hmm54]) rfl ?_
                refine sv_go C.1 C.2.1 [(.sipush 1440, 3), (.iload 6, 2)] (pc' := 85) (by decide +kernel) rfl (lv' := [(0, sv_r a), (1, sv_r b), (2, sv_r h), (3, sv_i Xg1_l3), (4, sv_i Xg12_l4), (5, sv_i ((v32 + vu37) - vu42)), (6, sv_i ((v32 + vu47) - vu52))]) (st' := [sv_i ((v32 + vu47) - vu52), sv_i 1440, sv_i mm54, sv_r h]) rfl ?_
                obtain ⟨w55, hw55, ew55⟩ := sv_wr ((v32 + vu47) - vu52)
                refine sv_sameD (st2 := [sv_i w55, sv_i 1440, sv_i mm54, sv_r h]) (lv2 := [(0, sv_r a), (1, sv_r b), (2, sv_r h), (3, sv_i Xg1_l3), (4, sv_i Xg12_l4), (5, sv_i ((v32 + vu37) - vu42)), (6, sv_i ((v32 + vu47) - vu52))]) (by simp only [List.map_cons, List.map_nil, sv_den_i, ew55]) rfl ?_
                refine sv_min C (index := 56) (by decide +kernel) ml_X5_56 ⟨by omega, by omega⟩ ⟨by omega, by omega⟩ (Nat.le_of_ble_eq_true rfl) (Nat.le_of_ble_eq_true rfl) ⟨Nat.zero_le _, Nat.zero_le _⟩ ?_
                obtain ⟨mm56, hmm56⟩ : ∃ q : Int, q = (if (w55 : Int) < 1440 then w55 else 1440) := ⟨_, rfl⟩
                refine sv_same (st2 := [sv_i mm56, sv_i mm54, sv_r h]) (lv2 := [(0, sv_r a), (1, sv_r b), (2, sv_r h), (3, sv_i Xg1_l3), (4, sv_i Xg12_l4), (5, sv_i ((v32 + vu37) - vu42)), (6, sv_i ((v32 + vu47) - vu52))]) (by rw [hmm56]) rfl ?_
                refine sv_cs C (index := 59) (k := 3) (rest := []) (by decide +kernel) (sf_X5_addHindrance l g A ty σ13 hok51 hTA Iσ13 h k_h (mm54) ⟨by omega, by omega⟩ (mm56) ⟨by omega, by omega⟩) ⟨co_X5_addHindrance, in_X5, ⟨by decide, by decide, by decide +kernel⟩, Nat.le_of_ble_eq_true rfl, Nat.le_of_ble_eq_true rfl⟩ ml_X5_59 st_X5_addHindrance rfl rfl (Nat.le_of_ble_eq_true rfl) ⟨Nat.zero_le _, Nat.zero_le _⟩ (fun r58 σ59 hpo57 hok60 => ?_)
                obtain ⟨rfl, hIu61, hFu61⟩ := hpo57
                have hGu61 := Fσ13.tr hFu61 (by decide) (by decide)
                have t62 : σ59 b 1 = v32 := (hFu61.at k_b (by decide) (by decide)).trans ev32
                refine sv_same (st2 := []) (lv2 := [(0, sv_r a), (1, sv_r b), (2, sv_r h), (3, sv_i Xg1_l3), (4, sv_i Xg12_l4), (5, sv_i ((v32 + vu37) - vu42)), (6, sv_i ((v32 + vu47) - vu52))]) rfl rfl ?_
                refine sv_pick [0, 1, 2, 3, 4] (lv2 := [(0, sv_r a), (1, sv_r b), (2, sv_r h), (3, sv_i Xg1_l3), (4, sv_i Xg12_l4)]) rfl ?_
                exact J31 σ59 hok60 hIu61 hGu61
        exact L14 (((24 - (Xg1_l3 % 2) : Int)).toNat + 1) (Xg1_l3 % 2) σ2 ⟨by omega, by omega⟩ hok8 Iσ2 Fσ2 (by omega)
  exact L3 (((23 - 0 : Int)).toNat + 1) 0 σ ⟨by omega, by omega⟩ hok hI hF (by omega)

theorem mn_X8_25 : Cond.methodLinkNest RX8 25 yX9_isCorner "SaintsRoad" ∈ sv_nest := sv_memN 889 (by decide +kernel) rfl
theorem co_X9_isCorner : Cond.code yX9_isCorner cX9_isCorner 1 (some .boolean) ∈ lw_good := sv_mem 880 (by decide +kernel) rfl
theorem st_X9_isCorner : Cond.static yX9_isCorner ∈ lw_good := sv_mem 879 (by decide +kernel) rfl
theorem fl_X8_17 : Cond.fieldLink RX8 17 "SaintsRoad$Town" "minutes" "[I" ∈ lw_good := sv_mem 393 (by decide +kernel) rfl
set_option maxHeartbeats 4000000 in
set_option maxRecDepth 100000 in
theorem sf_X8_minutesBetween (l : Launch) (g : sv_G) (A : Nat → Prop) (ty : Nat → Nat) (σ : Nat → Nat → Int) (hok : sv_ok ty σ) (hTA : ∀ q, ty q ≠ 0 → A q) (hI : sv_inv sp_1 ty σ) (a : Nat) (k_a : ty a = 6) (v : Int) (h_v : (-2147483648) ≤ v ∧ v ≤ 2147483647) (w : Int) (h_w : (-2147483648) ≤ w ∧ w ≤ 2147483647) : sv_M l yX8_minutesBetween cX8_minutesBetween 3 (some .int) { frames := 1, cells := 0, slots := 0, locals := 20 } g A ty σ [sv_r a, sv_i v, sv_i w] (fun r σ' => σ = σ' ∧ ∃ rv : Int, r = [sv_i rv] ∧ (0 ≤ rv ∧ rv ≤ 60)) := by
  refine sv_enter (by decide) (Nat.le_of_ble_eq_true rfl) ?_
  intro p e s m args below meth c C hr
  have C : sv_C g A RX8 cX8_minutesBetween 3 p s m args meth c := C
  have hr : meth.sig.returnType = (some .int) := hr
  have hF : sv_ofx [] [] ty σ σ := sv_ofx.rf
  refine sv_same (st2 := []) (lv2 := [(0, sv_r a), (1, sv_i v), (2, sv_i w)]) rfl rfl ?_
  refine sv_go C.1 C.2.1 [(.iload_n 1, 1)] (pc' := 1) (by decide +kernel) rfl (lv' := [(0, sv_r a), (1, sv_i v), (2, sv_i w)]) (st' := [sv_i v]) rfl ?_
  refine sv_csN C (index := 25) (k := 1) (rest := []) (by decide +kernel) (sf_X9_isCorner l g A ty σ hok hTA hI (v) ⟨by omega, by omega⟩) ⟨co_X9_isCorner, in_X9, ⟨by decide, by decide, by decide +kernel⟩, Nat.le_of_ble_eq_true rfl, Nat.le_of_ble_eq_true rfl⟩ mn_X8_25 st_X9_isCorner rfl rfl (Nat.le_of_ble_eq_true rfl) ⟨Nat.zero_le _, Nat.zero_le _⟩ (fun r2 σ3 hpo1 hok4 => ?_)
  obtain ⟨rfl, ⟨vu5, rfl, hvu5, ivu5_0⟩⟩ := hpo1
  refine sv_same (st2 := [sv_i vu5]) (lv2 := [(0, sv_r a), (1, sv_i v), (2, sv_i w)]) rfl rfl ?_
  refine sv_if C.1 C.2.1 (cnd := .eq) (off := 24) (tgt := 28) (by decide +kernel) (by decide) ⟨by omega, by omega⟩ (fun (h6 : vu5 = 0) => ?_) (fun (h6 : ¬ (vu5 = 0)) => ?_)
  · refine sv_go C.1 C.2.1 [(.iconst 0, 1)] (pc' := 29) (by decide +kernel) rfl (lv' := [(0, sv_r a), (1, sv_i v), (2, sv_i w)]) (st' := [sv_i 0]) rfl ?_
    exact sv_iret C hr (by decide +kernel) hok4 (⟨rfl, ⟨_, rfl, ⟨by omega, by omega⟩⟩⟩)
  · have hp7 := ivu5_0 (by omega) (by omega)
    refine sv_go C.1 C.2.1 [(.iload_n 2, 1)] (pc' := 8) (by decide +kernel) rfl (lv' := [(0, sv_r a), (1, sv_i v), (2, sv_i w)]) (st' := [sv_i w]) rfl ?_
    refine sv_csN C (index := 25) (k := 1) (rest := []) (by decide +kernel) (sf_X9_isCorner l g A ty σ hok4 hTA hI (w) ⟨by omega, by omega⟩) ⟨co_X9_isCorner, in_X9, ⟨by decide, by decide, by decide +kernel⟩, Nat.le_of_ble_eq_true rfl, Nat.le_of_ble_eq_true rfl⟩ mn_X8_25 st_X9_isCorner rfl rfl (Nat.le_of_ble_eq_true rfl) ⟨Nat.zero_le _, Nat.zero_le _⟩ (fun r9 σ10 hpo8 hok11 => ?_)
    obtain ⟨rfl, ⟨vu12, rfl, hvu12, ivu12_0⟩⟩ := hpo8
    refine sv_same (st2 := [sv_i vu12]) (lv2 := [(0, sv_r a), (1, sv_i v), (2, sv_i w)]) rfl rfl ?_
    refine sv_if C.1 C.2.1 (cnd := .eq) (off := 17) (tgt := 28) (by decide +kernel) (by decide) ⟨by omega, by omega⟩ (fun (h13 : vu12 = 0) => ?_) (fun (h13 : ¬ (vu12 = 0)) => ?_)
    · refine sv_go C.1 C.2.1 [(.iconst 0, 1)] (pc' := 29) (by decide +kernel) rfl (lv' := [(0, sv_r a), (1, sv_i v), (2, sv_i w)]) (st' := [sv_i 0]) rfl ?_
      exact sv_iret C hr (by decide +kernel) hok11 (⟨rfl, ⟨_, rfl, ⟨by omega, by omega⟩⟩⟩)
    · have hp14 := ivu12_0 (by omega) (by omega)
      refine sv_go C.1 C.2.1 [(.aload_n 0, 1)] (pc' := 15) (by decide +kernel) rfl (lv' := [(0, sv_r a), (1, sv_i v), (2, sv_i w)]) (st' := [sv_r a]) rfl ?_
      obtain ⟨v15, ev15, kv15⟩ := hI.ref (k := 2) k_a rfl
      refine sv_gf C (index := 17) (ci := 7) (k := 2) (r := (RX8, TX8, 4)) (v := sv_r v15) (by decide +kernel) (by rw [k_a]; rfl) rfl (by decide) fl_X8_17 (congrArg sv_a ev15) ?_
      refine sv_go C.1 C.2.1 [(.bipush 20, 2), (.iload_n 1, 1), (.imul, 1), (.iload_n 2, 1), (.iadd, 1)] (pc' := 24) (by decide +kernel) rfl (lv' := [(0, sv_r a), (1, sv_i v), (2, sv_i w)]) (st' := [sv_i ((20 * v) + w), sv_r v15]) rfl ?_
      refine sv_ia C (n := 400) (by decide +kernel) (by rw [kv15]; rfl) (by decide) (by omega) (by omega) ?_
      obtain ⟨v16, ev16, hv16⟩ := sv_rdn hI (k := ((20 * v) + w : Int).toNat) kv15 rfl
      rw [ev16]
      refine sv_goto C.1 C.2.1 (off := 4) (tgt := 29) (by decide +kernel) (by decide) ?_
      exact sv_iret C hr (by decide +kernel) hok11 (⟨rfl, ⟨_, rfl, ⟨by omega, by omega⟩⟩⟩)

theorem ml_X8_29 : Cond.methodLink RX8 29 yX8_minutesBetween ∈ lw_good := sv_mem 885 (by decide +kernel) rfl
theorem co_X8_minutesBetween : Cond.code yX8_minutesBetween cX8_minutesBetween 3 (some .int) ∈ lw_good := sv_mem 888 (by decide +kernel) rfl
theorem in_X8 : Cond.initialized RX8 ∈ lw_good := sv_mem 80 (by decide +kernel) rfl
theorem im_X8_minutesBetween : Cond.instanceMethod yX8_minutesBetween ∈ lw_good := sv_mem 886 (by decide +kernel) rfl
theorem se_X8_minutesBetween : Cond.selects RX8 yX8_minutesBetween yX8_minutesBetween ∈ lw_good := sv_mem 887 (by decide +kernel) rfl
theorem fl_X8_33 : Cond.fieldLink RX8 33 "SaintsRoad$Town" "streetCount" "I" ∈ lw_good := sv_mem 391 (by decide +kernel) rfl
theorem ml_X8_37 : Cond.methodLink RX8 37 yJ6_compare_7cf53 ∈ lw_good := sv_mem 890 (by decide +kernel) rfl
theorem co_J6_compare_7cf53 : Cond.code yJ6_compare_7cf53 cJ6_compare_7cf53 2 (some .int) ∈ lw_good := sv_mem 892 (by decide +kernel) rfl
theorem in_J6 : Cond.initialized RJ6 ∈ lw_good := sv_mem 92 (by decide +kernel) rfl
theorem st_J6_compare_7cf53 : Cond.static yJ6_compare_7cf53 ∈ lw_good := sv_mem 891 (by decide +kernel) rfl
set_option maxHeartbeats 4000000 in
set_option maxRecDepth 100000 in
theorem sf_X8_setStreet (l : Launch) (g : sv_G) (A : Nat → Prop) (ty : Nat → Nat) (σ : Nat → Nat → Int) (hok : sv_ok ty σ) (hTA : ∀ q, ty q ≠ 0 → A q) (hI : sv_inv sp_1 ty σ) (a : Nat) (k_a : ty a = 6) (v : Int) (h_v : 0 ≤ v ∧ v ≤ 19) (w : Int) (h_w : 0 ≤ w ∧ w ≤ 19) (x : Int) (h_x : 0 ≤ x ∧ x ≤ 60) : sv_M l yX8_setStreet cX8_setStreet 5 (some .int) { frames := 2, cells := 0, slots := 0, locals := 42 } g A ty σ [sv_r a, sv_i v, sv_i w, sv_i x] (fun r σ' => (∃ rv : Int, r = [sv_i rv] ∧ (0 ≤ rv ∧ rv ≤ 60)) ∧ sv_inv sp_1 ty σ' ∧ sv_ofx [(6, 1)] [38] ty σ σ') := by
  refine sv_enter (by decide) (Nat.le_of_ble_eq_true rfl) ?_
  intro p e s m args below meth c C hr
  have C : sv_C g A RX8 cX8_setStreet 5 p s m args meth c := C
  have hr : meth.sig.returnType = (some .int) := hr
  have hF : sv_ofx [(6, 1)] [38] ty σ σ := sv_ofx.rf
  refine sv_same (st2 := []) (lv2 := [(0, sv_r a), (1, sv_i v), (2, sv_i w), (3, sv_i x)]) rfl rfl ?_
  refine sv_go C.1 C.2.1 [(.aload_n 0, 1), (.iload_n 1, 1), (.iload_n 2, 1)] (pc' := 3) (by decide +kernel) rfl (lv' := [(0, sv_r a), (1, sv_i v), (2, sv_i w), (3, sv_i x)]) (st' := [sv_i w, sv_i v, sv_r a]) rfl ?_
  refine sv_cv C (index := 29) (k := 2) (rest := []) (ci := 7) (r := (RX8, TX8, 4)) (by decide +kernel) (sf_X8_minutesBetween l g A ty σ hok hTA hI a k_a (v) ⟨by omega, by omega⟩ (w) ⟨by omega, by omega⟩) ⟨co_X8_minutesBetween, in_X8, ⟨by decide, by decide, by decide +kernel⟩, Nat.le_of_ble_eq_true rfl, Nat.le_of_ble_eq_true rfl⟩ ml_X8_29 im_X8_minutesBetween se_X8_minutesBetween (by rw [k_a]; rfl) rfl rfl rfl (Nat.le_of_ble_eq_true rfl) ⟨Nat.zero_le _, Nat.zero_le _⟩ (fun r2 σ3 hpo1 hok4 => ?_)
  obtain ⟨rfl, ⟨vu5, rfl, hvu5⟩⟩ := hpo1
  refine sv_same (st2 := [sv_i vu5]) (lv2 := [(0, sv_r a), (1, sv_i v), (2, sv_i w), (3, sv_i x)]) rfl rfl ?_
  refine sv_go C.1 C.2.1 [(.istore 4, 2), (.aload_n 0, 1)] (pc' := 9) (by decide +kernel) rfl (lv' := [(0, sv_r a), (1, sv_i v), (2, sv_i w), (3, sv_i x), (4, sv_i vu5)]) (st' := [sv_r a]) rfl ?_
  obtain ⟨v6, ev6, kv6⟩ := hI.ref (k := 2) k_a rfl
  refine sv_gf C (index := 17) (ci := 7) (k := 2) (r := (RX8, TX8, 4)) (v := sv_r v6) (by decide +kernel) (by rw [k_a]; rfl) rfl (by decide) fl_X8_17 (congrArg sv_a ev6) ?_
  refine sv_go C.1 C.2.1 [(.bipush 20, 2), (.iload_n 1, 1), (.imul, 1), (.iload_n 2, 1), (.iadd, 1), (.iload_n 3, 1)] (pc' := 19) (by decide +kernel) rfl (lv' := [(0, sv_r a), (1, sv_i v), (2, sv_i w), (3, sv_i x), (4, sv_i vu5)]) (st' := [sv_i x, sv_i ((20 * v) + w), sv_r v6]) rfl ?_
  refine sv_is C (n := 400) (by decide +kernel) (by rw [kv6]; rfl) (by decide) (by omega) (by omega) ⟨by omega, by omega⟩ (hTA _ (by rw [kv6]; decide)) hok4 (fun hok7 => ?_)
  have hI9 := hI.up (a := v6) (k := ((20 * v) + w : Int).toNat) (z := x) (by rw [kv6]; exact ⟨by omega, by omega⟩)
  have hF10 := hF.up (a := v6) (k := ((20 * v) + w : Int).toNat) (z := x) (Or.inl (by rw [kv6]; decide))
  generalize eσ8 : sv_up σ v6 ((20 * v) + w : Int).toNat x = σ8 at hok7 hI9 hF10 ⊢
  have t11 : σ8 a 2 = (v6 : Int) + 1 := by rw [← eσ8, sv_up_a (sv_ne k_a kv6 (by decide))]; exact ev6
  have t12 : σ8 v6 ((20 * v) + w : Int).toNat = x := by rw [← eσ8]; exact sv_up_s _ _ _ _
  refine sv_go C.1 C.2.1 [(.aload_n 0, 1)] (pc' := 21) (by decide +kernel) rfl (lv' := [(0, sv_r a), (1, sv_i v), (2, sv_i w), (3, sv_i x), (4, sv_i vu5)]) (st' := [sv_r a]) rfl ?_
  refine sv_gf C (index := 17) (ci := 7) (k := 2) (r := (RX8, TX8, 4)) (v := sv_r v6) (by decide +kernel) (by rw [k_a]; rfl) rfl (by decide) fl_X8_17 (congrArg sv_a t11) ?_
  refine sv_go C.1 C.2.1 [(.bipush 20, 2), (.iload_n 2, 1), (.imul, 1), (.iload_n 1, 1), (.iadd, 1), (.iload_n 3, 1)] (pc' := 31) (by decide +kernel) rfl (lv' := [(0, sv_r a), (1, sv_i v), (2, sv_i w), (3, sv_i x), (4, sv_i vu5)]) (st' := [sv_i x, sv_i ((20 * w) + v), sv_r v6]) rfl ?_
  refine sv_is C (n := 400) (by decide +kernel) (by rw [kv6]; rfl) (by decide) (by omega) (by omega) ⟨by omega, by omega⟩ (hTA _ (by rw [kv6]; decide)) hok7 (fun hok13 => ?_)
  have hI15 := hI9.up (a := v6) (k := ((20 * w) + v : Int).toNat) (z := x) (by rw [kv6]; exact ⟨by omega, by omega⟩)
  have hF16 := hF10.up (a := v6) (k := ((20 * w) + v : Int).toNat) (z := x) (Or.inl (by rw [kv6]; decide))
  generalize eσ14 : sv_up σ8 v6 ((20 * w) + v : Int).toNat x = σ14 at hok13 hI15 hF16 ⊢
  have t17 : σ14 a 2 = (v6 : Int) + 1 := by rw [← eσ14, sv_up_a (sv_ne k_a kv6 (by decide))]; exact t11
  have t19 : σ14 v6 ((20 * w) + v : Int).toNat = x := by rw [← eσ14]; exact sv_up_s _ _ _ _
  refine sv_go C.1 C.2.1 [(.aload_n 0, 1), (.dup, 1)] (pc' := 34) (by decide +kernel) rfl (lv' := [(0, sv_r a), (1, sv_i v), (2, sv_i w), (3, sv_i x), (4, sv_i vu5)]) (st' := [sv_r a, sv_r a]) rfl ?_
  obtain ⟨v20, ev20, hv20⟩ := sv_rdk hok13 (a := a) (k := 1) (ci := 7) (r := (RX8, TX8, 4)) (by rw [k_a]; rfl) rfl (by decide) rfl
  refine sv_gf C (index := 33) (ci := 7) (k := 1) (r := (RX8, TX8, 4)) (v := sv_i v20) (by decide +kernel) (by rw [k_a]; rfl) rfl (by decide) fl_X8_33 (congrArg sv_i ev20) ?_
  refine sv_go C.1 C.2.1 [(.iload_n 3, 1), (.iconst 0, 1)] (pc' := 39) (by decide +kernel) rfl (lv' := [(0, sv_r a), (1, sv_i v), (2, sv_i w), (3, sv_i x), (4, sv_i vu5)]) (st' := [sv_i 0, sv_i x, sv_i v20, sv_r a]) rfl ?_
  refine sv_cs C (index := 37) (k := 2) (rest := [sv_i v20, sv_r a]) (by decide +kernel) (sf_J6_compare_7cf53 l g A ty σ14 hok13 hTA hI15 (x) ⟨by omega, by omega⟩ (0) ⟨by omega, by omega⟩) ⟨co_J6_compare_7cf53, in_J6, ⟨by decide, by decide, by decide +kernel⟩, Nat.le_of_ble_eq_true rfl, Nat.le_of_ble_eq_true rfl⟩ ml_X8_37 st_J6_compare_7cf53 rfl rfl (Nat.le_of_ble_eq_true rfl) ⟨Nat.zero_le _, Nat.zero_le _⟩ (fun r22 σ23 hpo21 hok24 => ?_)
  obtain ⟨rfl, ⟨vu25, rfl, hvu25⟩⟩ := hpo21
  refine sv_same (st2 := [sv_i vu25, sv_i v20, sv_r a]) (lv2 := [(0, sv_r a), (1, sv_i v), (2, sv_i w), (3, sv_i x), (4, sv_i vu5)]) rfl rfl ?_
  refine sv_go C.1 C.2.1 [(.iload 4, 2), (.iconst 0, 1)] (pc' := 45) (by decide +kernel) rfl (lv' := [(0, sv_r a), (1, sv_i v), (2, sv_i w), (3, sv_i x), (4, sv_i vu5)]) (st' := [sv_i 0, sv_i vu5, sv_i vu25, sv_i v20, sv_r a]) rfl ?_
  refine sv_cs C (index := 37) (k := 2) (rest := [sv_i vu25, sv_i v20, sv_r a]) (by decide +kernel) (sf_J6_compare_7cf53 l g A ty σ14 hok24 hTA hI15 (vu5) ⟨by omega, by omega⟩ (0) ⟨by omega, by omega⟩) ⟨co_J6_compare_7cf53, in_J6, ⟨by decide, by decide, by decide +kernel⟩, Nat.le_of_ble_eq_true rfl, Nat.le_of_ble_eq_true rfl⟩ ml_X8_37 st_J6_compare_7cf53 rfl rfl (Nat.le_of_ble_eq_true rfl) ⟨Nat.zero_le _, Nat.zero_le _⟩ (fun r27 σ28 hpo26 hok29 => ?_)
  obtain ⟨rfl, ⟨vu30, rfl, hvu30⟩⟩ := hpo26
  refine sv_same (st2 := [sv_i vu30, sv_i vu25, sv_i v20, sv_r a]) (lv2 := [(0, sv_r a), (1, sv_i v), (2, sv_i w), (3, sv_i x), (4, sv_i vu5)]) rfl rfl ?_
  refine sv_go C.1 C.2.1 [(.isub, 1), (.iadd, 1)] (pc' := 50) (by decide +kernel) rfl (lv' := [(0, sv_r a), (1, sv_i v), (2, sv_i w), (3, sv_i x), (4, sv_i vu5)]) (st' := [sv_i (v20 + (vu25 - vu30)), sv_r a]) rfl ?_
  obtain ⟨w31, hw31, ew31⟩ := sv_wr (v20 + (vu25 - vu30))
  refine sv_sameD (st2 := [sv_i w31, sv_r a]) (lv2 := [(0, sv_r a), (1, sv_i v), (2, sv_i w), (3, sv_i x), (4, sv_i vu5)]) (by simp only [List.map_cons, List.map_nil, sv_den_i, ew31]) rfl ?_
  refine sv_pf C (index := 33) (ci := 7) (k := 1) (r := (RX8, TX8, 4)) (z := w31) (by decide +kernel) (by rw [k_a]; rfl) rfl (by decide) rfl fl_X8_33 rfl (Or.inl rfl) ⟨by omega, by omega⟩ (hTA _ (by rw [k_a]; decide)) hok29 (fun hok32 => ?_)
  have hI34 := hI15.up (a := a) (k := 1) (z := w31) (by rw [k_a]; exact trivial)
  have hF35 := hF16.up (a := a) (k := 1) (z := w31) (Or.inr (by rw [k_a]; decide))
  generalize eσ33 : sv_up σ14 a 1 w31 = σ33 at hok32 hI34 hF35 ⊢
  have t36 : σ33 a 2 = (v6 : Int) + 1 := by rw [← eσ33, sv_up_k (by decide)]; exact t17
  have t37 : σ33 v6 ((20 * w) + v : Int).toNat = x := by rw [← eσ33, sv_up_a (sv_ne kv6 k_a (by decide))]; exact t19
  have t38 : σ33 a 1 = w31 := by rw [← eσ33]; exact sv_up_s _ _ _ _
  refine sv_go C.1 C.2.1 [(.iload 4, 2)] (pc' := 55) (by decide +kernel) rfl (lv' := [(0, sv_r a), (1, sv_i v), (2, sv_i w), (3, sv_i x), (4, sv_i vu5)]) (st' := [sv_i vu5]) rfl ?_
  exact sv_iret C hr (by decide +kernel) hok32 (⟨⟨_, rfl, ⟨by omega, by omega⟩⟩, hI34, hF35⟩)

theorem fl_X8_11 : Cond.fieldLink RX8 11 "SaintsRoad$Town" "processions" "[LSaintsRoad$Procession;" ∈ lw_good := sv_mem 389 (by decide +kernel) rfl
theorem fl_X8_42 : Cond.fieldLink RX8 42 "SaintsRoad$Procession" "size" "I" ∈ lw_good := sv_mem 371 (by decide +kernel) rfl
set_option maxHeartbeats 4000000 in
set_option maxRecDepth 100000 in
theorem sf_X8_begunCount (l : Launch) (g : sv_G) (A : Nat → Prop) (ty : Nat → Nat) (σ : Nat → Nat → Int) (hok : sv_ok ty σ) (hTA : ∀ q, ty q ≠ 0 → A q) (hI : sv_inv sp_1 ty σ) (a : Nat) (k_a : ty a = 6) : sv_M l yX8_begunCount cX8_begunCount 3 (some .int) { frames := 0, cells := 0, slots := 0, locals := 0 } g A ty σ [sv_r a] (fun r σ' => σ = σ' ∧ ∃ rv : Int, r = [sv_i rv] ∧ ((-2147483648) ≤ rv ∧ rv ≤ 2147483647)) := by
  refine sv_enter (by decide) (Nat.le_of_ble_eq_true rfl) ?_
  intro p e s m args below meth c C hr
  have C : sv_C g A RX8 cX8_begunCount 3 p s m args meth c := C
  have hr : meth.sig.returnType = (some .int) := hr
  have hF : sv_ofx [] [] ty σ σ := sv_ofx.rf
  refine sv_same (st2 := []) (lv2 := [(0, sv_r a)]) rfl rfl ?_
  refine sv_go C.1 C.2.1 [(.iconst 0, 1), (.istore_n 1, 1), (.iconst 0, 1), (.istore_n 2, 1)] (pc' := 4) (by decide +kernel) rfl (lv' := [(0, sv_r a), (1, sv_i 0), (2, sv_i 0)]) (st' := []) rfl ?_
  have L2 : ∀ (n : Nat) (Xg1_l1 : Int) (Xg1_l2 : Int), ((-2147483648) ≤ Xg1_l1 ∧ Xg1_l1 ≤ 2147483647) → (0 ≤ Xg1_l2 ∧ Xg1_l2 ≤ 12) → (12 - Xg1_l2) < (n : Int) → sv_E p l e { frames := 0, cells := 0, slots := 0, locals := 0 } s m args below meth c 3 g A ty (fun r σ' => σ = σ' ∧ ∃ rv : Int, r = [sv_i rv] ∧ ((-2147483648) ≤ rv ∧ rv ≤ 2147483647)) σ 4 [(0, sv_r a), (1, sv_i Xg1_l1), (2, sv_i Xg1_l2)] [] := by
    intro n
    induction n with
    | zero => intro Xg1_l1 Xg1_l2 hXg1_l1 hXg1_l2 hmu; exact absurd hmu (by omega)
    | succ n ih3 =>
      intro Xg1_l1 Xg1_l2 hXg1_l1 hXg1_l2 hmu
      refine sv_go C.1 C.2.1 [(.iload_n 2, 1), (.bipush 12, 2)] (pc' := 7) (by decide +kernel) rfl (lv' := [(0, sv_r a), (1, sv_i Xg1_l1), (2, sv_i Xg1_l2)]) (st' := [sv_i 12, sv_i Xg1_l2]) rfl ?_
      refine sv_icmp C.1 C.2.1 (cnd := .ge) (off := 24) (tgt := 31) (by decide +kernel) (by decide) ⟨by omega, by omega⟩ ⟨by omega, by omega⟩ (fun (h4 : 12 ≤ Xg1_l2) => ?_) (fun (h4 : ¬ (12 ≤ Xg1_l2)) => ?_)
      · refine sv_go C.1 C.2.1 [(.iload_n 1, 1)] (pc' := 32) (by decide +kernel) rfl (lv' := [(0, sv_r a), (1, sv_i Xg1_l1), (2, sv_i Xg1_l2)]) (st' := [sv_i Xg1_l1]) rfl ?_
        exact sv_iret C hr (by decide +kernel) hok (⟨rfl, ⟨_, rfl, ⟨by omega, by omega⟩⟩⟩)
      · refine sv_go C.1 C.2.1 [(.aload_n 0, 1)] (pc' := 11) (by decide +kernel) rfl (lv' := [(0, sv_r a), (1, sv_i Xg1_l1), (2, sv_i Xg1_l2)]) (st' := [sv_r a]) rfl ?_
        obtain ⟨v5, ev5, kv5⟩ := hI.ref (k := 0) k_a rfl
        refine sv_gf C (index := 11) (ci := 7) (k := 0) (r := (RX8, TX8, 4)) (v := sv_r v5) (by decide +kernel) (by rw [k_a]; rfl) rfl (by decide) fl_X8_11 (congrArg sv_a ev5) ?_
        refine sv_go C.1 C.2.1 [(.iload_n 2, 1)] (pc' := 15) (by decide +kernel) rfl (lv' := [(0, sv_r a), (1, sv_i Xg1_l1), (2, sv_i Xg1_l2)]) (st' := [sv_i Xg1_l2, sv_r v5]) rfl ?_
        refine sv_aa C (N := "SaintsRoad$Procession") (by decide) (n := 12) (by decide +kernel) (by rw [kv5]; rfl) (by decide) (by omega) (by omega) ?_
        obtain ⟨v6, ev6, kv6⟩ := hI.ref (k := (Xg1_l2 : Int).toNat) kv5 (by first | rfl | (show (if _ then _ else _) = _; rw [if_pos (by omega)]))
        rw [ev6]
        obtain ⟨v7, ev7, hv7⟩ := sv_rdn hI (k := 0) kv6 rfl
        refine sv_gf C (index := 42) (ci := 4) (k := 0) (r := (RX5, TX5, 5)) (v := sv_i v7) (by decide +kernel) (by rw [kv6]; rfl) rfl (by decide) fl_X8_42 (congrArg sv_i ev7) ?_
        have J10 : ∀ (Jg9_l1 : Int), ((-2147483648) ≤ Jg9_l1 ∧ Jg9_l1 ≤ 2147483647) → sv_E p l e { frames := 0, cells := 0, slots := 0, locals := 0 } s m args below meth c 3 g A ty (fun r σ' => σ = σ' ∧ ∃ rv : Int, r = [sv_i rv] ∧ ((-2147483648) ≤ rv ∧ rv ≤ 2147483647)) σ 25 [(0, sv_r a), (1, sv_i Jg9_l1), (2, sv_i Xg1_l2)] [] := by
          intro Jg9_l1 hJg9_l1
          refine sv_go C.1 C.2.1 [(.iinc 2 1, 3)] (pc' := 28) (by decide +kernel) rfl (lv' := [(0, sv_r a), (1, sv_i Jg9_l1), (2, sv_i (Xg1_l2 + 1))]) (st' := []) rfl ?_
          refine sv_goto C.1 C.2.1 (off := (-24)) (tgt := 4) (by decide +kernel) (by decide) ?_
          exact ih3 Jg9_l1 (Xg1_l2 + 1) ⟨by omega, by omega⟩ ⟨by omega, by omega⟩ (by omega)
        refine sv_if C.1 C.2.1 (cnd := .le) (off := 6) (tgt := 25) (by decide +kernel) (by decide) ⟨by omega, by omega⟩ (fun (h8 : v7 ≤ 0) => ?_) (fun (h8 : ¬ (v7 ≤ 0)) => ?_)
        · exact J10 Xg1_l1 ⟨by omega, by omega⟩
        · refine sv_go C.1 C.2.1 [(.iinc 1 1, 3)] (pc' := 25) (by decide +kernel) rfl (lv' := [(0, sv_r a), (1, sv_i (Xg1_l1 + 1)), (2, sv_i Xg1_l2)]) (st' := []) rfl ?_
          obtain ⟨w11, hw11, ew11⟩ := sv_wr (Xg1_l1 + 1)
          refine sv_sameD (st2 := []) (lv2 := [(0, sv_r a), (1, sv_i w11), (2, sv_i Xg1_l2)]) (by simp only [List.map_cons, List.map_nil, sv_den_i, ew11]) (by simp only [sv_lm, List.map_cons, List.map_nil, sv_den_i, ew11]) ?_
          exact J10 w11 ⟨by omega, by omega⟩
  exact L2 (((12 - 0 : Int)).toNat + 1) 0 0 ⟨by omega, by omega⟩ ⟨by omega, by omega⟩ (by omega)

theorem fl_X8_21 : Cond.fieldLink RX8 21 "SaintsRoad$Town" "hindrances" "[I" ∈ lw_good := sv_mem 394 (by decide +kernel) rfl
theorem ml_X8_45 : Cond.methodLink RX8 45 yJ7_fill_53178 ∈ lw_good := sv_mem 983 (by decide +kernel) rfl
theorem ml_X8_51 : Cond.methodLink RX8 51 yX5_addHindrances ∈ lw_good := sv_mem 984 (by decide +kernel) rfl
theorem co_X5_addHindrances : Cond.code yX5_addHindrances cX5_addHindrances 7 none ∈ lw_good := sv_mem 987 (by decide +kernel) rfl
theorem im_X5_addHindrances : Cond.instanceMethod yX5_addHindrances ∈ lw_good := sv_mem 985 (by decide +kernel) rfl
theorem se_X5_addHindrances : Cond.selects RX5 yX5_addHindrances yX5_addHindrances ∈ lw_good := sv_mem 986 (by decide +kernel) rfl
set_option maxHeartbeats 4000000 in
set_option maxRecDepth 100000 in
theorem sf_X8_firstFree (l : Launch) (g : sv_G) (A : Nat → Prop) (ty : Nat → Nat) (σ : Nat → Nat → Int) (hok : sv_ok ty σ) (hTA : ∀ q, ty q ≠ 0 → A q) (hI : sv_inv sp_1 ty σ) (a : Nat) (k_a : ty a = 6) (v : Int) (h_v : 0 ≤ v ∧ v ≤ 11) (w : Int) (h_w : 0 ≤ w ∧ w ≤ 1440) : sv_M l yX8_firstFree cX8_firstFree 5 (some .int) { frames := 2, cells := 0, slots := 0, locals := 49 } g A ty σ [sv_r a, sv_i v, sv_i w] (fun r σ' => (∃ rv : Int, r = [sv_i rv] ∧ ((-1) ≤ rv ∧ rv ≤ 1440)) ∧ sv_inv sp_1 ty σ' ∧ sv_ofx [] [39] ty σ σ') := by
  refine sv_enter (by decide) (Nat.le_of_ble_eq_true rfl) ?_
  intro p e s m args below meth c C hr
  have C : sv_C g A RX8 cX8_firstFree 5 p s m args meth c := C
  have hr : meth.sig.returnType = (some .int) := hr
  have hF : sv_ofx [] [39] ty σ σ := sv_ofx.rf
  refine sv_same (st2 := []) (lv2 := [(0, sv_r a), (1, sv_i v), (2, sv_i w)]) rfl rfl ?_
  refine sv_go C.1 C.2.1 [(.aload_n 0, 1)] (pc' := 1) (by decide +kernel) rfl (lv' := [(0, sv_r a), (1, sv_i v), (2, sv_i w)]) (st' := [sv_r a]) rfl ?_
  obtain ⟨v1, ev1, kv1⟩ := hI.ref (k := 3) k_a rfl
  refine sv_gf C (index := 21) (ci := 7) (k := 3) (r := (RX8, TX8, 4)) (v := sv_r v1) (by decide +kernel) (by rw [k_a]; rfl) rfl (by decide) fl_X8_21 (congrArg sv_a ev1) ?_
  refine sv_go C.1 C.2.1 [(.iconst 0, 1)] (pc' := 5) (by decide +kernel) rfl (lv' := [(0, sv_r a), (1, sv_i v), (2, sv_i w)]) (st' := [sv_i 0, sv_r v1]) rfl ?_
  refine sv_cs C (index := 45) (k := 2) (rest := []) (by decide +kernel) (ct_fill l g A ty σ hok v1 1442 (by rw [kv1]; rfl) (by decide) (hTA _ (by rw [kv1]; decide)) (0) ⟨by omega, by omega⟩) ⟨co_J7_fill_53178, in_J7, ⟨by decide, by decide, by decide +kernel⟩, Nat.le_of_ble_eq_true rfl, Nat.le_of_ble_eq_true rfl⟩ ml_X8_45 st_J7_fill_53178 rfl rfl (Nat.le_of_ble_eq_true rfl) ⟨Nat.zero_le _, Nat.zero_le _⟩ (fun r3 σ4 hpo2 hok5 => ?_)
  obtain ⟨rfl, h1u6, h2u6, h3u6⟩ := hpo2
  have hIu6 := hI.fill (b := v1) (n := 1442) (v := 0) (fun k => by rw [kv1]; exact trivial) h1u6 h2u6 h3u6
  have hGu6 := hF.fill (b := v1) (by rw [kv1]; decide) h1u6
  have t7 : σ4 a 3 = (v1 : Int) + 1 := (h1u6 a (sv_ne k_a kv1 (by decide)) 3).trans ev1
  refine sv_same (st2 := []) (lv2 := [(0, sv_r a), (1, sv_i v), (2, sv_i w)]) rfl rfl ?_
  refine sv_go C.1 C.2.1 [(.iconst 0, 1), (.istore_n 3, 1)] (pc' := 10) (by decide +kernel) rfl (lv' := [(0, sv_r a), (1, sv_i v), (2, sv_i w), (3, sv_i 0)]) (st' := []) rfl ?_
  have L10 : ∀ (n : Nat) (Xg8_l3 : Int) (σ9 : Nat → Nat → Int), (0 ≤ Xg8_l3 ∧ Xg8_l3 ≤ 12) → (sv_ok ty σ9) → (sv_inv sp_1 ty σ9) → (sv_ofx [] [39] ty σ σ9) → (σ9 a 3 = (v1 : Int) + 1) → (12 - Xg8_l3) < (n : Int) → sv_E p l e { frames := 2, cells := 0, slots := 0, locals := 49 } s m args below meth c 5 g A ty (fun r σ' => (∃ rv : Int, r = [sv_i rv] ∧ ((-1) ≤ rv ∧ rv ≤ 1440)) ∧ sv_inv sp_1 ty σ' ∧ sv_ofx [] [39] ty σ σ') σ9 10 [(0, sv_r a), (1, sv_i v), (2, sv_i w), (3, sv_i Xg8_l3)] [] := by
    intro n
    induction n with
    | zero => intro Xg8_l3 σ9 hXg8_l3 okσ9 Iσ9 Fσ9 eσ9_0 hmu; exact absurd hmu (by omega)
    | succ n ih11 =>
      intro Xg8_l3 σ9 hXg8_l3 okσ9 Iσ9 Fσ9 eσ9_0 hmu
      refine sv_go C.1 C.2.1 [(.iload_n 3, 1), (.bipush 12, 2)] (pc' := 13) (by decide +kernel) rfl (lv' := [(0, sv_r a), (1, sv_i v), (2, sv_i w), (3, sv_i Xg8_l3)]) (st' := [sv_i 12, sv_i Xg8_l3]) rfl ?_
      refine sv_icmp C.1 C.2.1 (cnd := .ge) (off := 46) (tgt := 59) (by decide +kernel) (by decide) ⟨by omega, by omega⟩ ⟨by omega, by omega⟩ (fun (h12 : 12 ≤ Xg8_l3) => ?_) (fun (h12 : ¬ (12 ≤ Xg8_l3)) => ?_)
      · refine sv_go C.1 C.2.1 [(.iconst 0, 1), (.istore_n 3, 1), (.iconst 0, 1), (.istore 4, 2)] (pc' := 64) (by decide +kernel) rfl (lv' := [(0, sv_r a), (1, sv_i v), (2, sv_i w), (3, sv_i 0), (4, sv_i 0)]) (st' := []) rfl ?_
        have L14 : ∀ (n : Nat) (Xg13_l3 : Int) (Xg13_l4 : Int), ((-2147483648) ≤ Xg13_l3 ∧ Xg13_l3 ≤ 2147483647) → (0 ≤ Xg13_l4 ∧ Xg13_l4 ≤ 1441) → (1441 - Xg13_l4) < (n : Int) → sv_E p l e { frames := 2, cells := 0, slots := 0, locals := 49 } s m args below meth c 5 g A ty (fun r σ' => (∃ rv : Int, r = [sv_i rv] ∧ ((-1) ≤ rv ∧ rv ≤ 1440)) ∧ sv_inv sp_1 ty σ' ∧ sv_ofx [] [39] ty σ σ') σ9 64 [(0, sv_r a), (2, sv_i w), (3, sv_i Xg13_l3), (4, sv_i Xg13_l4)] [] := by
          intro n
          induction n with
          | zero => intro Xg13_l3 Xg13_l4 hXg13_l3 hXg13_l4 hmu; exact absurd hmu (by omega)
          | succ n ih15 =>
            intro Xg13_l3 Xg13_l4 hXg13_l3 hXg13_l4 hmu
            refine sv_go C.1 C.2.1 [(.iload 4, 2), (.sipush 1440, 3)] (pc' := 69) (by decide +kernel) rfl (lv' := [(0, sv_r a), (2, sv_i w), (3, sv_i Xg13_l3), (4, sv_i Xg13_l4)]) (st' := [sv_i 1440, sv_i Xg13_l4]) rfl ?_
            refine sv_icmp C.1 C.2.1 (cnd := .gt) (off := 32) (tgt := 101) (by decide +kernel) (by decide) ⟨by omega, by omega⟩ ⟨by omega, by omega⟩ (fun (h16 : 1440 < Xg13_l4) => ?_) (fun (h16 : ¬ (1440 < Xg13_l4)) => ?_)
            · refine sv_go C.1 C.2.1 [(.iconst (-1), 1)] (pc' := 102) (by decide +kernel) rfl (lv' := [(0, sv_r a), (2, sv_i w), (3, sv_i Xg13_l3), (4, sv_i Xg13_l4)]) (st' := [sv_i ((-1))]) rfl ?_
              exact sv_iret C hr (by decide +kernel) okσ9 (⟨⟨_, rfl, ⟨by omega, by omega⟩⟩, Iσ9, Fσ9⟩)
            · refine sv_go C.1 C.2.1 [(.iload_n 3, 1), (.aload_n 0, 1)] (pc' := 74) (by decide +kernel) rfl (lv' := [(0, sv_r a), (2, sv_i w), (3, sv_i Xg13_l3), (4, sv_i Xg13_l4)]) (st' := [sv_r a, sv_i Xg13_l3]) rfl ?_
              refine sv_gf C (index := 21) (ci := 7) (k := 3) (r := (RX8, TX8, 4)) (v := sv_r v1) (by decide +kernel) (by rw [k_a]; rfl) rfl (by decide) fl_X8_21 (congrArg sv_a eσ9_0) ?_
              refine sv_go C.1 C.2.1 [(.iload 4, 2)] (pc' := 79) (by decide +kernel) rfl (lv' := [(0, sv_r a), (2, sv_i w), (3, sv_i Xg13_l3), (4, sv_i Xg13_l4)]) (st' := [sv_i Xg13_l4, sv_r v1, sv_i Xg13_l3]) rfl ?_
              refine sv_ia C (n := 1442) (by decide +kernel) (by rw [kv1]; rfl) (by decide) (by omega) (by omega) ?_
              obtain ⟨v17, ev17, hv17⟩ := sv_rde okσ9 (a := v1) (k := (Xg13_l4 : Int).toNat) (n := 1442) (by rw [kv1]; rfl) (by omega)
              rw [ev17]
              refine sv_go C.1 C.2.1 [(.iadd, 1), (.istore_n 3, 1), (.iload 4, 2), (.iload_n 2, 1)] (pc' := 85) (by decide +kernel) rfl (lv' := [(0, sv_r a), (2, sv_i w), (3, sv_i (Xg13_l3 + v17)), (4, sv_i Xg13_l4)]) (st' := [sv_i w, sv_i Xg13_l4]) rfl ?_
              refine sv_icmp C.1 C.2.1 (cnd := .lt) (off := 10) (tgt := 95) (by decide +kernel) (by decide) ⟨by omega, by omega⟩ ⟨by omega, by omega⟩ (fun (h18 : Xg13_l4 < w) => ?_) (fun (h18 : ¬ (Xg13_l4 < w)) => ?_)
              · refine sv_go C.1 C.2.1 [(.iinc 4 1, 3)] (pc' := 98) (by decide +kernel) rfl (lv' := [(0, sv_r a), (2, sv_i w), (3, sv_i (Xg13_l3 + v17)), (4, sv_i (Xg13_l4 + 1))]) (st' := []) rfl ?_
                refine sv_goto C.1 C.2.1 (off := (-34)) (tgt := 64) (by decide +kernel) (by decide) ?_
                obtain ⟨w19, hw19, ew19⟩ := sv_wr (Xg13_l3 + v17)
                refine sv_sameD (st2 := []) (lv2 := [(0, sv_r a), (2, sv_i w), (3, sv_i w19), (4, sv_i (Xg13_l4 + 1))]) (by simp only [List.map_cons, List.map_nil, sv_den_i, ew19]) (by simp only [sv_lm, List.map_cons, List.map_nil, sv_den_i, ew19]) ?_
                exact ih15 w19 (Xg13_l4 + 1) ⟨by omega, by omega⟩ ⟨by omega, by omega⟩ (by omega)
              · refine sv_go C.1 C.2.1 [(.iload_n 3, 1)] (pc' := 89) (by decide +kernel) rfl (lv' := [(0, sv_r a), (2, sv_i w), (3, sv_i (Xg13_l3 + v17)), (4, sv_i Xg13_l4)]) (st' := [sv_i (Xg13_l3 + v17)]) rfl ?_
                obtain ⟨w20, hw20, ew20⟩ := sv_wr (Xg13_l3 + v17)
                refine sv_sameD (st2 := [sv_i w20]) (lv2 := [(0, sv_r a), (2, sv_i w), (3, sv_i (Xg13_l3 + v17)), (4, sv_i Xg13_l4)]) (by simp only [List.map_cons, List.map_nil, sv_den_i, ew20]) rfl ?_
                refine sv_if C.1 C.2.1 (cnd := .ne) (off := 6) (tgt := 95) (by decide +kernel) (by decide) ⟨by omega, by omega⟩ (fun (h21 : w20 ≠ 0) => ?_) (fun (h21 : ¬ (w20 ≠ 0)) => ?_)
                · refine sv_go C.1 C.2.1 [(.iinc 4 1, 3)] (pc' := 98) (by decide +kernel) rfl (lv' := [(0, sv_r a), (2, sv_i w), (3, sv_i (Xg13_l3 + v17)), (4, sv_i (Xg13_l4 + 1))]) (st' := []) rfl ?_
                  refine sv_goto C.1 C.2.1 (off := (-34)) (tgt := 64) (by decide +kernel) (by decide) ?_
                  obtain ⟨w22, hw22, ew22⟩ := sv_wr (Xg13_l3 + v17)
                  refine sv_sameD (st2 := []) (lv2 := [(0, sv_r a), (2, sv_i w), (3, sv_i w22), (4, sv_i (Xg13_l4 + 1))]) (by simp only [List.map_cons, List.map_nil, sv_den_i, ew22]) (by simp only [sv_lm, List.map_cons, List.map_nil, sv_den_i, ew22]) ?_
                  exact ih15 w22 (Xg13_l4 + 1) ⟨by omega, by omega⟩ ⟨by omega, by omega⟩ (by omega)
                · refine sv_go C.1 C.2.1 [(.iload 4, 2)] (pc' := 94) (by decide +kernel) rfl (lv' := [(0, sv_r a), (2, sv_i w), (3, sv_i (Xg13_l3 + v17)), (4, sv_i Xg13_l4)]) (st' := [sv_i Xg13_l4]) rfl ?_
                  exact sv_iret C hr (by decide +kernel) okσ9 (⟨⟨_, rfl, ⟨by omega, by omega⟩⟩, Iσ9, Fσ9⟩)
        refine sv_pick [0, 2, 3, 4] (lv2 := [(0, sv_r a), (2, sv_i w), (3, sv_i 0), (4, sv_i 0)]) rfl ?_
        exact L14 (((1441 - 0 : Int)).toNat + 1) 0 0 ⟨by omega, by omega⟩ ⟨by omega, by omega⟩ (by omega)
      · refine sv_go C.1 C.2.1 [(.iload_n 3, 1), (.iload_n 1, 1)] (pc' := 18) (by decide +kernel) rfl (lv' := [(0, sv_r a), (1, sv_i v), (2, sv_i w), (3, sv_i Xg8_l3)]) (st' := [sv_i v, sv_i Xg8_l3]) rfl ?_
        have J26 : ∀  (σ25 : Nat → Nat → Int), (sv_ok ty σ25) → (sv_inv sp_1 ty σ25) → (sv_ofx [] [39] ty σ σ25) → (σ25 a 3 = (v1 : Int) + 1) → sv_E p l e { frames := 2, cells := 0, slots := 0, locals := 49 } s m args below meth c 5 g A ty (fun r σ' => (∃ rv : Int, r = [sv_i rv] ∧ ((-1) ≤ rv ∧ rv ≤ 1440)) ∧ sv_inv sp_1 ty σ' ∧ sv_ofx [] [39] ty σ σ') σ25 53 [(0, sv_r a), (1, sv_i v), (2, sv_i w), (3, sv_i Xg8_l3)] [] := by
          intro σ25 okσ25 Iσ25 Fσ25 eσ25_0
          refine sv_go C.1 C.2.1 [(.iinc 3 1, 3)] (pc' := 56) (by decide +kernel) rfl (lv' := [(0, sv_r a), (1, sv_i v), (2, sv_i w), (3, sv_i (Xg8_l3 + 1))]) (st' := []) rfl ?_
          refine sv_goto C.1 C.2.1 (off := (-46)) (tgt := 10) (by decide +kernel) (by decide) ?_
          exact ih11 (Xg8_l3 + 1) σ25 ⟨by omega, by omega⟩ okσ25 Iσ25 Fσ25 eσ25_0 (by omega)
        refine sv_icmp C.1 C.2.1 (cnd := .eq) (off := 35) (tgt := 53) (by decide +kernel) (by decide) ⟨by omega, by omega⟩ ⟨by omega, by omega⟩ (fun (h23 : Xg8_l3 = v) => ?_) (fun (h23 : ¬ (Xg8_l3 = v)) => ?_)
        · exact J26 σ9 okσ9 Iσ9 Fσ9 eσ9_0
        · refine sv_go C.1 C.2.1 [(.aload_n 0, 1)] (pc' := 22) (by decide +kernel) rfl (lv' := [(0, sv_r a), (1, sv_i v), (2, sv_i w), (3, sv_i Xg8_l3)]) (st' := [sv_r a]) rfl ?_
          obtain ⟨v27, ev27, kv27⟩ := Iσ9.ref (k := 0) k_a rfl
          refine sv_gf C (index := 11) (ci := 7) (k := 0) (r := (RX8, TX8, 4)) (v := sv_r v27) (by decide +kernel) (by rw [k_a]; rfl) rfl (by decide) fl_X8_11 (congrArg sv_a ev27) ?_
          refine sv_go C.1 C.2.1 [(.iload_n 3, 1)] (pc' := 26) (by decide +kernel) rfl (lv' := [(0, sv_r a), (1, sv_i v), (2, sv_i w), (3, sv_i Xg8_l3)]) (st' := [sv_i Xg8_l3, sv_r v27]) rfl ?_
          refine sv_aa C (N := "SaintsRoad$Procession") (by decide) (n := 12) (by decide +kernel) (by rw [kv27]; rfl) (by decide) (by omega) (by omega) ?_
          obtain ⟨v28, ev28, kv28⟩ := Iσ9.ref (k := (Xg8_l3 : Int).toNat) kv27 (by first | rfl | (show (if _ then _ else _) = _; rw [if_pos (by omega)]))
          rw [ev28]
          obtain ⟨v29, ev29, hv29⟩ := sv_rdn Iσ9 (k := 0) kv28 rfl
          refine sv_gf C (index := 42) (ci := 4) (k := 0) (r := (RX5, TX5, 5)) (v := sv_i v29) (by decide +kernel) (by rw [kv28]; rfl) rfl (by decide) fl_X8_42 (congrArg sv_i ev29) ?_
          refine sv_go C.1 C.2.1 [(.iconst 2, 1)] (pc' := 31) (by decide +kernel) rfl (lv' := [(0, sv_r a), (1, sv_i v), (2, sv_i w), (3, sv_i Xg8_l3)]) (st' := [sv_i 2, sv_i v29]) rfl ?_
          refine sv_icmp C.1 C.2.1 (cnd := .lt) (off := 22) (tgt := 53) (by decide +kernel) (by decide) ⟨by omega, by omega⟩ ⟨by omega, by omega⟩ (fun (h30 : v29 < 2) => ?_) (fun (h30 : ¬ (v29 < 2)) => ?_)
          · exact J26 σ9 okσ9 Iσ9 Fσ9 eσ9_0
          · refine sv_go C.1 C.2.1 [(.aload_n 0, 1)] (pc' := 35) (by decide +kernel) rfl (lv' := [(0, sv_r a), (1, sv_i v), (2, sv_i w), (3, sv_i Xg8_l3)]) (st' := [sv_r a]) rfl ?_
            refine sv_gf C (index := 11) (ci := 7) (k := 0) (r := (RX8, TX8, 4)) (v := sv_r v27) (by decide +kernel) (by rw [k_a]; rfl) rfl (by decide) fl_X8_11 (congrArg sv_a ev27) ?_
            refine sv_go C.1 C.2.1 [(.iload_n 1, 1)] (pc' := 39) (by decide +kernel) rfl (lv' := [(0, sv_r a), (1, sv_i v), (2, sv_i w), (3, sv_i Xg8_l3)]) (st' := [sv_i v, sv_r v27]) rfl ?_
            refine sv_aa C (N := "SaintsRoad$Procession") (by decide) (n := 12) (by decide +kernel) (by rw [kv27]; rfl) (by decide) (by omega) (by omega) ?_
            obtain ⟨v31, ev31, kv31⟩ := Iσ9.ref (k := (v : Int).toNat) kv27 (by first | rfl | (show (if _ then _ else _) = _; rw [if_pos (by omega)]))
            rw [ev31]
            refine sv_go C.1 C.2.1 [(.aload_n 0, 1)] (pc' := 41) (by decide +kernel) rfl (lv' := [(0, sv_r a), (1, sv_i v), (2, sv_i w), (3, sv_i Xg8_l3)]) (st' := [sv_r a, sv_r v31]) rfl ?_
            refine sv_gf C (index := 11) (ci := 7) (k := 0) (r := (RX8, TX8, 4)) (v := sv_r v27) (by decide +kernel) (by rw [k_a]; rfl) rfl (by decide) fl_X8_11 (congrArg sv_a ev27) ?_
            refine sv_go C.1 C.2.1 [(.iload_n 3, 1)] (pc' := 45) (by decide +kernel) rfl (lv' := [(0, sv_r a), (1, sv_i v), (2, sv_i w), (3, sv_i Xg8_l3)]) (st' := [sv_i Xg8_l3, sv_r v27, sv_r v31]) rfl ?_
            refine sv_aa C (N := "SaintsRoad$Procession") (by decide) (n := 12) (by decide +kernel) (by rw [kv27]; rfl) (by decide) (by omega) (by omega) ?_
            rw [ev28]
            refine sv_go C.1 C.2.1 [(.aload_n 0, 1)] (pc' := 47) (by decide +kernel) rfl (lv' := [(0, sv_r a), (1, sv_i v), (2, sv_i w), (3, sv_i Xg8_l3)]) (st' := [sv_r a, sv_r v28, sv_r v31]) rfl ?_
            refine sv_gf C (index := 21) (ci := 7) (k := 3) (r := (RX8, TX8, 4)) (v := sv_r v1) (by decide +kernel) (by rw [k_a]; rfl) rfl (by decide) fl_X8_21 (congrArg sv_a eσ9_0) ?_
            refine sv_cv C (index := 51) (k := 2) (rest := []) (ci := 4) (r := (RX5, TX5, 5)) (by decide +kernel) (sf_X5_addHindrances l g A ty σ9 okσ9 hTA Iσ9 v31 kv31 v28 kv28 v1 kv1) ⟨co_X5_addHindrances, in_X5, ⟨by decide, by decide, by decide +kernel⟩, Nat.le_of_ble_eq_true rfl, Nat.le_of_ble_eq_true rfl⟩ ml_X8_51 im_X5_addHindrances se_X5_addHindrances (by rw [kv31]; rfl) rfl rfl rfl (Nat.le_of_ble_eq_true rfl) ⟨Nat.zero_le _, Nat.zero_le _⟩ (fun r33 σ34 hpo32 hok35 => ?_)
            obtain ⟨rfl, hIu36, hFu36⟩ := hpo32
            have hGu36 := Fσ9.tr hFu36 (by decide) (by decide)
            have t37 : σ34 a 3 = (v1 : Int) + 1 := (hFu36.at k_a (by decide) (by decide)).trans eσ9_0
            have t38 : σ34 a 0 = (v27 : Int) + 1 := (hFu36.at k_a (by decide) (by decide)).trans ev27
            have t39 : σ34 v27 (Xg8_l3 : Int).toNat = (v28 : Int) + 1 := (hFu36.atA kv27 (by decide) (by decide)).trans ev28
            have t40 : σ34 v28 0 = v29 := (hFu36.at kv28 (by decide) (by decide)).trans ev29
            have t41 : σ34 v27 (v : Int).toNat = (v31 : Int) + 1 := (hFu36.atA kv27 (by decide) (by decide)).trans ev31
            refine sv_same (st2 := []) (lv2 := [(0, sv_r a), (1, sv_i v), (2, sv_i w), (3, sv_i Xg8_l3)]) rfl rfl ?_
            exact J26 σ34 hok35 hIu36 hGu36 t37
  exact L10 (((12 - 0 : Int)).toNat + 1) 0 σ4 ⟨by omega, by omega⟩ hok5 hIu6 hGu6 t7 (by omega)
