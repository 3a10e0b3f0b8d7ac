/-- a byte of the text, 0 behind its end -/
def zq_at (σ : Nat → Nat → Int) (a : Nat) (k : Int) : Int := if k < σ a 18 then (Int32.ofInt (σ (σ a 16 - 1).toNat k.toNat) &&& Int32.ofInt 255).toInt else 0
theorem zq_at_up {ty : Nat → Nat} {σ σ' : Nat → Nat → Int} {a k : Nat} {z j : Int} (e : sv_up σ a k z = σ') (h : sv_inv sp_1 ty σ') (ha : ty a = 10) (h16 : (16 : Nat) ≠ k) (h18 : (18 : Nat) ≠ k) : zq_at σ' a j = zq_at σ a j := by
  obtain ⟨q, e1, k1⟩ := h.ref (k := 16) ha rfl
  have hq : q ≠ a := fun e2 => by rw [e2, ha] at k1; cases k1
  have e16 : σ a 16 = (q : Int) + 1 := by rw [← e1, ← e, sv_up_k h16]
  have e18 : σ' a 18 = σ a 18 := by rw [← e, sv_up_k h18]
  have er : σ' q = σ q := by rw [← e]; exact sv_up_row hq
  unfold zq_at
  rw [e18, e1, e16, show ((q : Int) + 1 - 1).toNat = q by omega, er]

theorem fl_X11_175 : Cond.fieldLink RX11 175 "SaintsRoadModel" "size" "I" ∈ lw_good := sv_mem 1122 (by decide +kernel) rfl
set_option maxHeartbeats 4000000 in
set_option maxRecDepth 100000 in
theorem sf_X11_byteAt (l : Launch) (g : sv_G) (A : Nat → Prop) (ty : Nat → Nat) (σ : Nat → Nat → Int) (hok : sv_ok ty σ) (hTA : ∀ q, ty q ≠ 0 → A q) (hI : sv_inv sp_1 ty σ) (a : Nat) (k_a : ty a = 10) (v : Int) (h_v : 0 ≤ v ∧ v ≤ 4000) : sv_M l yX11_byteAt cX11_byteAt 2 (some .int) { frames := 0, cells := 0, slots := 0, locals := 0 } g A ty σ [sv_r a, sv_i v] (fun r σ' => σ = σ' ∧ ∃ rv : Int, r = [sv_i rv] ∧ (0 ≤ rv ∧ rv ≤ 255) ∧ (1 ≤ rv → rv ≤ 255 → v < σ a 18) ∧ ((-2147483648) ≤ rv → rv ≤ 2147483647 → rv = zq_at σ a v)) := by
  refine sv_enter (by decide) (Nat.le_of_ble_eq_true rfl) ?_
  intro p e s m args below meth c C hr
  have C : sv_C g A RX11 cX11_byteAt 2 p s m args meth c := C
  have hr : meth.sig.returnType = (some .int) := hr
  have hF : sv_ofx [] [] ty σ σ := sv_ofx.rf
  refine sv_same (st2 := []) (lv2 := [(0, sv_r a), (1, sv_i v)]) rfl rfl ?_
  refine sv_go C.1 C.2.1 [(.iload_n 1, 1), (.aload_n 0, 1)] (pc' := 2) (by decide +kernel) rfl (lv' := [(0, sv_r a), (1, sv_i v)]) (st' := [sv_r a, sv_i v]) rfl ?_
  obtain ⟨v1, ev1, hv1⟩ := sv_rdn hI (k := 18) k_a rfl
  refine sv_gf C (index := 175) (ci := 10) (k := 18) (r := (RX11, TX11, 47)) (v := sv_i v1) (by decide +kernel) (by rw [k_a]; rfl) rfl (by decide) fl_X11_175 (congrArg sv_i ev1) ?_
  refine sv_icmp C.1 C.2.1 (cnd := .ge) (off := 16) (tgt := 21) (by decide +kernel) (by decide) ⟨by omega, by omega⟩ ⟨by omega, by omega⟩ (fun (h2 : v1 ≤ v) => ?_) (fun (h2 : ¬ (v1 ≤ v)) => ?_)
  · refine sv_go C.1 C.2.1 [(.iconst 0, 1)] (pc' := 22) (by decide +kernel) rfl (lv' := [(0, sv_r a), (1, sv_i v)]) (st' := [sv_i 0]) rfl ?_
    exact sv_iret C hr (by decide +kernel) hok (⟨rfl, ⟨_, rfl, ⟨by omega, by omega⟩, fun _ _ => (by omega), fun _ _ => (by unfold zq_at; rw [if_neg (by omega)])⟩⟩)
  · refine sv_go C.1 C.2.1 [(.aload_n 0, 1)] (pc' := 9) (by decide +kernel) rfl (lv' := [(0, sv_r a), (1, sv_i v)]) (st' := [sv_r a]) rfl ?_
    obtain ⟨v3, ev3, kv3⟩ := hI.ref (k := 16) k_a rfl
    refine sv_gf C (index := 102) (ci := 10) (k := 16) (r := (RX11, TX11, 47)) (v := sv_r v3) (by decide +kernel) (by rw [k_a]; rfl) rfl (by decide) fl_X11_102 (congrArg sv_a ev3) ?_
    refine sv_go C.1 C.2.1 [(.iload_n 1, 1)] (pc' := 13) (by decide +kernel) rfl (lv' := [(0, sv_r a), (1, sv_i v)]) (st' := [sv_i v, sv_r v3]) rfl ?_
    refine sv_ba C (n := 4000) (by decide +kernel) (by rw [kv3]; rfl) (by decide) (by omega) (by omega) ?_
    obtain ⟨v4, ev4, hv4⟩ := sv_rdeb hok (a := v3) (k := (v : Int).toNat) (n := 4000) (by rw [kv3]; rfl) (by omega)
    rw [ev4]
    refine sv_go C.1 C.2.1 [(.sipush 255, 3), (.iand, 1)] (pc' := 18) (by decide +kernel) rfl (lv' := [(0, sv_r a), (1, sv_i v)]) (st' := [sv_i ((Int32.ofInt v4 &&& Int32.ofInt 255).toInt)]) rfl ?_
    have hb5 : 0 ≤ (Int32.ofInt v4 &&& Int32.ofInt 255).toInt ∧ (Int32.ofInt v4 &&& Int32.ofInt 255).toInt ≤ 255 := sv_andr v4 255 (by decide) (by decide)
    refine sv_goto C.1 C.2.1 (off := 4) (tgt := 22) (by decide +kernel) (by decide) ?_
    exact sv_iret C hr (by decide +kernel) hok (⟨rfl, ⟨_, rfl, ⟨by omega, by omega⟩, fun _ _ => (by omega), fun _ _ => (by unfold zq_at; rw [if_pos (by omega), show (σ a 16 - 1).toNat = v3 by omega, ev4])⟩⟩)

set_option maxHeartbeats 4000000 in
set_option maxRecDepth 100000 in
theorem sf2_X11_isLetter (l : Launch) (g : sv_G) (A : Nat → Prop) (ty : Nat → Nat) (σ : Nat → Nat → Int) (hok : sv_ok ty σ) (hTA : ∀ q, ty q ≠ 0 → A q) (hI : sv_inv sp_1 ty σ) (v : Int) (h_v : (-2147483648) ≤ v ∧ v ≤ 2147483647) : sv_M l yX11_isLetter cX11_isLetter 1 (some .boolean) { frames := 0, cells := 0, slots := 0, locals := 0 } g A ty σ [sv_i v] (fun r σ' => σ = σ' ∧ ∃ rv : Int, r = [sv_i rv] ∧ (0 ≤ rv ∧ rv ≤ 1) ∧ (1 ≤ rv → rv ≤ 1 → 97 ≤ v ∧ v ≤ 122) ∧ (0 ≤ rv → rv ≤ 0 → ¬ (97 ≤ v ∧ v ≤ 122))) := by
  refine sv_enter (by decide) (Nat.le_of_ble_eq_true rfl) ?_
  intro p e s m args below meth c C hr
  have C : sv_C g A RX11 cX11_isLetter 1 p s m args meth c := C
  have hr : meth.sig.returnType = (some .boolean) := hr
  have hF : sv_ofx [] [] ty σ σ := sv_ofx.rf
  refine sv_same (st2 := []) (lv2 := [(0, sv_i v)]) rfl rfl ?_
  refine sv_go C.1 C.2.1 [(.iload_n 0, 1), (.bipush 97, 2)] (pc' := 3) (by decide +kernel) rfl (lv' := [(0, sv_i v)]) (st' := [sv_i 97, sv_i v]) rfl ?_
  refine sv_icmp C.1 C.2.1 (cnd := .lt) (off := 13) (tgt := 16) (by decide +kernel) (by decide) ⟨by omega, by omega⟩ ⟨by omega, by omega⟩ (fun (h1 : v < 97) => ?_) (fun (h1 : ¬ (v < 97)) => ?_)
  · refine sv_go C.1 C.2.1 [(.iconst 0, 1)] (pc' := 17) (by decide +kernel) rfl (lv' := [(0, sv_i v)]) (st' := [sv_i 0]) rfl ?_
    exact sv_zret C hr (by omega) (by decide +kernel) hok (⟨rfl, ⟨_, rfl, ⟨by omega, by omega⟩, fun _ _ => (by omega), fun _ _ => (by omega)⟩⟩)
  · refine sv_go C.1 C.2.1 [(.iload_n 0, 1), (.bipush 122, 2)] (pc' := 9) (by decide +kernel) rfl (lv' := [(0, sv_i v)]) (st' := [sv_i 122, sv_i v]) rfl ?_
    refine sv_icmp C.1 C.2.1 (cnd := .gt) (off := 7) (tgt := 16) (by decide +kernel) (by decide) ⟨by omega, by omega⟩ ⟨by omega, by omega⟩ (fun (h2 : 122 < v) => ?_) (fun (h2 : ¬ (122 < v)) => ?_)
    · refine sv_go C.1 C.2.1 [(.iconst 0, 1)] (pc' := 17) (by decide +kernel) rfl (lv' := [(0, sv_i v)]) (st' := [sv_i 0]) rfl ?_
      exact sv_zret C hr (by omega) (by decide +kernel) hok (⟨rfl, ⟨_, rfl, ⟨by omega, by omega⟩, fun _ _ => (by omega), fun _ _ => (by omega)⟩⟩)
    · refine sv_go C.1 C.2.1 [(.iconst 1, 1)] (pc' := 13) (by decide +kernel) rfl (lv' := [(0, sv_i v)]) (st' := [sv_i 1]) rfl ?_
      refine sv_goto C.1 C.2.1 (off := 4) (tgt := 17) (by decide +kernel) (by decide) ?_
      exact sv_zret C hr (by omega) (by decide +kernel) hok (⟨rfl, ⟨_, rfl, ⟨by omega, by omega⟩, fun _ _ => (by omega), fun _ _ => (by omega)⟩⟩)

set_option maxHeartbeats 4000000 in
set_option maxRecDepth 100000 in
theorem sf2_X11_isDigit (l : Launch) (g : sv_G) (A : Nat → Prop) (ty : Nat → Nat) (σ : Nat → Nat → Int) (hok : sv_ok ty σ) (hTA : ∀ q, ty q ≠ 0 → A q) (hI : sv_inv sp_1 ty σ) (v : Int) (h_v : (-2147483648) ≤ v ∧ v ≤ 2147483647) : sv_M l yX11_isDigit cX11_isDigit 1 (some .boolean) { frames := 0, cells := 0, slots := 0, locals := 0 } g A ty σ [sv_i v] (fun r σ' => σ = σ' ∧ ∃ rv : Int, r = [sv_i rv] ∧ (0 ≤ rv ∧ rv ≤ 1) ∧ (1 ≤ rv → rv ≤ 1 → 48 ≤ v ∧ v ≤ 57) ∧ (0 ≤ rv → rv ≤ 0 → ¬ (48 ≤ v ∧ v ≤ 57))) := by
  refine sv_enter (by decide) (Nat.le_of_ble_eq_true rfl) ?_
  intro p e s m args below meth c C hr
  have C : sv_C g A RX11 cX11_isDigit 1 p s m args meth c := C
  have hr : meth.sig.returnType = (some .boolean) := hr
  have hF : sv_ofx [] [] ty σ σ := sv_ofx.rf
  refine sv_same (st2 := []) (lv2 := [(0, sv_i v)]) rfl rfl ?_
  refine sv_go C.1 C.2.1 [(.iload_n 0, 1), (.bipush 48, 2)] (pc' := 3) (by decide +kernel) rfl (lv' := [(0, sv_i v)]) (st' := [sv_i 48, sv_i v]) rfl ?_
  refine sv_icmp C.1 C.2.1 (cnd := .lt) (off := 13) (tgt := 16) (by decide +kernel) (by decide) ⟨by omega, by omega⟩ ⟨by omega, by omega⟩ (fun (h1 : v < 48) => ?_) (fun (h1 : ¬ (v < 48)) => ?_)
  · refine sv_go C.1 C.2.1 [(.iconst 0, 1)] (pc' := 17) (by decide +kernel) rfl (lv' := [(0, sv_i v)]) (st' := [sv_i 0]) rfl ?_
    exact sv_zret C hr (by omega) (by decide +kernel) hok (⟨rfl, ⟨_, rfl, ⟨by omega, by omega⟩, fun _ _ => (by omega), fun _ _ => (by omega)⟩⟩)
  · refine sv_go C.1 C.2.1 [(.iload_n 0, 1), (.bipush 57, 2)] (pc' := 9) (by decide +kernel) rfl (lv' := [(0, sv_i v)]) (st' := [sv_i 57, sv_i v]) rfl ?_
    refine sv_icmp C.1 C.2.1 (cnd := .gt) (off := 7) (tgt := 16) (by decide +kernel) (by decide) ⟨by omega, by omega⟩ ⟨by omega, by omega⟩ (fun (h2 : 57 < v) => ?_) (fun (h2 : ¬ (57 < v)) => ?_)
    · refine sv_go C.1 C.2.1 [(.iconst 0, 1)] (pc' := 17) (by decide +kernel) rfl (lv' := [(0, sv_i v)]) (st' := [sv_i 0]) rfl ?_
      exact sv_zret C hr (by omega) (by decide +kernel) hok (⟨rfl, ⟨_, rfl, ⟨by omega, by omega⟩, fun _ _ => (by omega), fun _ _ => (by omega)⟩⟩)
    · refine sv_go C.1 C.2.1 [(.iconst 1, 1)] (pc' := 13) (by decide +kernel) rfl (lv' := [(0, sv_i v)]) (st' := [sv_i 1]) rfl ?_
      refine sv_goto C.1 C.2.1 (off := 4) (tgt := 17) (by decide +kernel) (by decide) ?_
      exact sv_zret C hr (by omega) (by decide +kernel) hok (⟨rfl, ⟨_, rfl, ⟨by omega, by omega⟩, fun _ _ => (by omega), fun _ _ => (by omega)⟩⟩)

theorem fl_X11_178 : Cond.fieldLink RX11 178 "SaintsRoadModel" "behind" "I" ∈ lw_good := sv_mem 1124 (by decide +kernel) rfl
theorem fl_X11_172 : Cond.fieldLink RX11 172 "SaintsRoadModel" "begins" "I" ∈ lw_good := sv_mem 1123 (by decide +kernel) rfl
theorem ml_X11_181 : Cond.methodLink RX11 181 yX11_byteAt ∈ lw_good := sv_mem 1278 (by decide +kernel) rfl
theorem co_X11_byteAt : Cond.code yX11_byteAt cX11_byteAt 2 (some .int) ∈ lw_good := sv_mem 1281 (by decide +kernel) rfl
theorem im_X11_byteAt : Cond.instanceMethod yX11_byteAt ∈ lw_good := sv_mem 1280 (by decide +kernel) rfl
theorem se_X11_byteAt : Cond.selects RX11 yX11_byteAt yX11_byteAt ∈ lw_good := sv_mem 47 (by decide +kernel) rfl
theorem ml_X11_187 : Cond.methodLink RX11 187 yX11_isLetter ∈ lw_good := sv_mem 1282 (by decide +kernel) rfl
theorem co_X11_isLetter : Cond.code yX11_isLetter cX11_isLetter 1 (some .boolean) ∈ lw_good := sv_mem 1284 (by decide +kernel) rfl
theorem st_X11_isLetter : Cond.static yX11_isLetter ∈ lw_good := sv_mem 1283 (by decide +kernel) rfl
theorem ml_X11_190 : Cond.methodLink RX11 190 yX11_isDigit ∈ lw_good := sv_mem 1285 (by decide +kernel) rfl
theorem co_X11_isDigit : Cond.code yX11_isDigit cX11_isDigit 1 (some .boolean) ∈ lw_good := sv_mem 1287 (by decide +kernel) rfl
theorem st_X11_isDigit : Cond.static yX11_isDigit ∈ lw_good := sv_mem 1286 (by decide +kernel) rfl
theorem fl_X11_184 : Cond.fieldLink RX11 184 "SaintsRoadModel" "hand" "I" ∈ lw_good := sv_mem 1125 (by decide +kernel) rfl
theorem fl_X11_193 : Cond.fieldLink RX11 193 "SaintsRoadModel" "value" "I" ∈ lw_good := sv_mem 1126 (by decide +kernel) rfl
set_option maxHeartbeats 4000000 in
set_option maxRecDepth 100000 in
theorem sf_X11_scan (l : Launch) (g : sv_G) (A : Nat → Prop) (ty : Nat → Nat) (σ : Nat → Nat → Int) (hok : sv_ok ty σ) (hTA : ∀ q, ty q ≠ 0 → A q) (hI : sv_inv sp_1 ty σ) (a : Nat) (k_a : ty a = 10) (n18 : Int) (h_n18 : 0 ≤ n18 ∧ n18 ≤ 4000) (n20 : Int) (h_n20 : 0 ≤ n20 ∧ n20 ≤ 4000) (e18 : σ a 18 = n18) (e20 : σ a 20 = n20) (hle : n20 ≤ n18) : sv_M l yX11_scan cX11_scan 2 none { frames := 1, cells := 0, slots := 0, locals := 21 } g A ty σ [sv_r a] (fun r σ' => (r = []) ∧ sv_inv sp_1 ty σ' ∧ sv_ofx [(10, 19), (10, 20), (10, 21), (10, 22)] [] ty σ σ' ∧ ∃ c1 c2 hc : Int, σ' a 19 = c1 ∧ σ' a 20 = c2 ∧ σ' a 21 = hc ∧ (n20 ≤ c1 ∧ c1 ≤ c2 ∧ c2 ≤ n18) ∧ (0 ≤ hc ∧ hc ≤ 4) ∧ (hc = 0 ∨ c1 < c2) ∧ (hc ≠ 1 ∨ c2 ≤ c1 + 12)) := by
  refine sv_enter (by decide) (Nat.le_of_ble_eq_true rfl) ?_
  intro p e s m args below meth c C hr
  have C : sv_C g A RX11 cX11_scan 2 p s m args meth c := C
  have hr : meth.sig.returnType = none := hr
  have hF : sv_ofx [(10, 19), (10, 20), (10, 21), (10, 22)] [] ty σ σ := sv_ofx.rf
  refine sv_same (st2 := []) (lv2 := [(0, sv_r a)]) rfl rfl ?_
  have J3 : ∀ (Yg1_fa_20 : Int) (σ2 : Nat → Nat → Int), (0 ≤ Yg1_fa_20 ∧ Yg1_fa_20 ≤ 4000) → (sv_ok ty σ2) → (sv_inv sp_1 ty σ2) → (sv_ofx [(10, 19), (10, 20), (10, 21), (10, 22)] [] ty σ σ2) → (σ2 a 18 = n18) → (σ2 a 20 = Yg1_fa_20) → (n20 ≤ Yg1_fa_20) → (Yg1_fa_20 ≤ n18) → sv_E p l e { frames := 1, cells := 0, slots := 0, locals := 21 } s m args below meth c 2 g A ty (fun r σ' => (r = []) ∧ sv_inv sp_1 ty σ' ∧ sv_ofx [(10, 19), (10, 20), (10, 21), (10, 22)] [] ty σ σ' ∧ ∃ c1 c2 hc : Int, σ' a 19 = c1 ∧ σ' a 20 = c2 ∧ σ' a 21 = hc ∧ (n20 ≤ c1 ∧ c1 ≤ c2 ∧ c2 ≤ n18) ∧ (0 ≤ hc ∧ hc ≤ 4) ∧ (hc = 0 ∨ c1 < c2) ∧ (hc ≠ 1 ∨ c2 ≤ c1 + 12)) σ2 52 [(0, sv_r a)] [] := by
    intro Yg1_fa_20 σ2 hYg1_fa_20 okσ2 Iσ2 Fσ2 eσ2_0 eσ2_1 hy0 hy1
    refine sv_go C.1 C.2.1 [(.aload_n 0, 1), (.aload_n 0, 1)] (pc' := 54) (by decide +kernel) rfl (lv' := [(0, sv_r a)]) (st' := [sv_r a, sv_r a]) rfl ?_
    refine sv_gf C (index := 178) (ci := 10) (k := 20) (r := (RX11, TX11, 47)) (v := sv_i Yg1_fa_20) (by decide +kernel) (by rw [k_a]; rfl) rfl (by decide) fl_X11_178 (congrArg sv_i eσ2_1) ?_
    refine sv_pf C (index := 172) (ci := 10) (k := 19) (r := (RX11, TX11, 47)) (z := Yg1_fa_20) (by decide +kernel) (by rw [k_a]; rfl) rfl (by decide) rfl fl_X11_172 rfl (Or.inl rfl) ⟨by omega, by omega⟩ (hTA _ (by rw [k_a]; decide)) okσ2 (fun hok4 => ?_)
    have hI6 := Iσ2.up (a := a) (k := 19) (z := Yg1_fa_20) (by rw [k_a]; exact ⟨by omega, by omega⟩)
    have hF7 := Fσ2.up (a := a) (k := 19) (z := Yg1_fa_20) (Or.inr (by rw [k_a]; decide))
    generalize eσ5 : sv_up σ2 a 19 Yg1_fa_20 = σ5 at hok4 hI6 hF7 ⊢
    have t8 : σ5 a 18 = n18 := by rw [← eσ5, sv_up_k (by decide)]; exact eσ2_0
    have t9 : σ5 a 20 = Yg1_fa_20 := by rw [← eσ5, sv_up_k (by decide)]; exact eσ2_1
    have t10 : σ5 a 19 = Yg1_fa_20 := by rw [← eσ5]; exact sv_up_s _ _ _ _
    refine sv_go C.1 C.2.1 [(.aload_n 0, 1), (.aload_n 0, 1)] (pc' := 62) (by decide +kernel) rfl (lv' := [(0, sv_r a)]) (st' := [sv_r a, sv_r a]) rfl ?_
    refine sv_gf C (index := 172) (ci := 10) (k := 19) (r := (RX11, TX11, 47)) (v := sv_i Yg1_fa_20) (by decide +kernel) (by rw [k_a]; rfl) rfl (by decide) fl_X11_172 (congrArg sv_i t10) ?_
    refine sv_cv C (index := 181) (k := 1) (rest := []) (ci := 10) (r := (RX11, TX11, 47)) (by decide +kernel) (sf_X11_byteAt l g A ty σ5 hok4 hTA hI6 a k_a (Yg1_fa_20) ⟨by omega, by omega⟩) ⟨co_X11_byteAt, in_X11, ⟨by decide, by decide, by decide +kernel⟩, Nat.le_of_ble_eq_true rfl, Nat.le_of_ble_eq_true rfl⟩ ml_X11_181 im_X11_byteAt se_X11_byteAt (by rw [k_a]; rfl) rfl rfl rfl (Nat.le_of_ble_eq_true rfl) ⟨Nat.zero_le _, Nat.zero_le _⟩ (fun r12 σ13 hpo11 hok14 => ?_)
    obtain ⟨rfl, ⟨vu15, rfl, hvu15, ivu15_0, ivu15_1⟩⟩ := hpo11
    have hp16 := ivu15_1 (by omega) (by omega)
    refine sv_same (st2 := [sv_i vu15]) (lv2 := [(0, sv_r a)]) rfl rfl ?_
    refine sv_go C.1 C.2.1 [(.istore_n 1, 1), (.aload_n 0, 1)] (pc' := 70) (by decide +kernel) rfl (lv' := [(0, sv_r a), (1, sv_i vu15)]) (st' := [sv_r a]) rfl ?_
    refine sv_gf C (index := 172) (ci := 10) (k := 19) (r := (RX11, TX11, 47)) (v := sv_i Yg1_fa_20) (by decide +kernel) (by rw [k_a]; rfl) rfl (by decide) fl_X11_172 (congrArg sv_i t10) ?_
    refine sv_go C.1 C.2.1 [(.aload_n 0, 1)] (pc' := 74) (by decide +kernel) rfl (lv' := [(0, sv_r a), (1, sv_i vu15)]) (st' := [sv_r a, sv_i Yg1_fa_20]) rfl ?_
    refine sv_gf C (index := 175) (ci := 10) (k := 18) (r := (RX11, TX11, 47)) (v := sv_i n18) (by decide +kernel) (by rw [k_a]; rfl) rfl (by decide) fl_X11_175 (congrArg sv_i t8) ?_
    refine sv_icmp C.1 C.2.1 (cnd := .ne) (off := 11) (tgt := 88) (by decide +kernel) (by decide) ⟨by omega, by omega⟩ ⟨by omega, by omega⟩ (fun (h17 : Yg1_fa_20 ≠ n18) => ?_) (fun (h17 : ¬ (Yg1_fa_20 ≠ n18)) => ?_)
    · refine sv_go C.1 C.2.1 [(.iload_n 1, 1)] (pc' := 89) (by decide +kernel) rfl (lv' := [(0, sv_r a), (1, sv_i vu15)]) (st' := [sv_i vu15]) rfl ?_
      refine sv_cs C (index := 187) (k := 1) (rest := []) (by decide +kernel) (sf2_X11_isLetter l g A ty σ5 hok14 hTA hI6 (vu15) ⟨by omega, by omega⟩) ⟨co_X11_isLetter, in_X11, ⟨by decide, by decide, by decide +kernel⟩, Nat.le_of_ble_eq_true rfl, Nat.le_of_ble_eq_true rfl⟩ ml_X11_187 st_X11_isLetter rfl rfl (Nat.le_of_ble_eq_true rfl) ⟨Nat.zero_le _, Nat.zero_le _⟩ (fun r19 σ20 hpo18 hok21 => ?_)
      obtain ⟨rfl, ⟨vu22, rfl, hvu22, ivu22_0, ivu22_1⟩⟩ := hpo18
      refine sv_same (st2 := [sv_i vu22]) (lv2 := [(0, sv_r a), (1, sv_i vu15)]) rfl rfl ?_
      refine sv_if C.1 C.2.1 (cnd := .eq) (off := 56) (tgt := 148) (by decide +kernel) (by decide) ⟨by omega, by omega⟩ (fun (h23 : vu22 = 0) => ?_) (fun (h23 : ¬ (vu22 = 0)) => ?_)
      · have hp24 := ivu22_1 (by omega) (by omega)
        refine sv_go C.1 C.2.1 [(.iload_n 1, 1)] (pc' := 149) (by decide +kernel) rfl (lv' := [(0, sv_r a), (1, sv_i vu15)]) (st' := [sv_i vu15]) rfl ?_
        refine sv_cs C (index := 190) (k := 1) (rest := []) (by decide +kernel) (sf2_X11_isDigit l g A ty σ5 hok21 hTA hI6 (vu15) ⟨by omega, by omega⟩) ⟨co_X11_isDigit, in_X11, ⟨by decide, by decide, by decide +kernel⟩, Nat.le_of_ble_eq_true rfl, Nat.le_of_ble_eq_true rfl⟩ ml_X11_190 st_X11_isDigit rfl rfl (Nat.le_of_ble_eq_true rfl) ⟨Nat.zero_le _, Nat.zero_le _⟩ (fun r26 σ27 hpo25 hok28 => ?_)
        obtain ⟨rfl, ⟨vu29, rfl, hvu29, ivu29_0, ivu29_1⟩⟩ := hpo25
        refine sv_same (st2 := [sv_i vu29]) (lv2 := [(0, sv_r a), (1, sv_i vu15)]) rfl rfl ?_
        refine sv_if C.1 C.2.1 (cnd := .eq) (off := 96) (tgt := 248) (by decide +kernel) (by decide) ⟨by omega, by omega⟩ (fun (h30 : vu29 = 0) => ?_) (fun (h30 : ¬ (vu29 = 0)) => ?_)
        · have hp31 := ivu29_1 (by omega) (by omega)
          refine sv_go C.1 C.2.1 [(.aload_n 0, 1), (.iload_n 1, 1), (.bipush 45, 2)] (pc' := 252) (by decide +kernel) rfl (lv' := [(0, sv_r a), (1, sv_i vu15)]) (st' := [sv_i 45, sv_i vu15, sv_r a]) rfl ?_
          refine sv_icmp C.1 C.2.1 (cnd := .eq) (off := 9) (tgt := 261) (by decide +kernel) (by decide) ⟨by omega, by omega⟩ ⟨by omega, by omega⟩ (fun (h32 : vu15 = 45) => ?_) (fun (h32 : ¬ (vu15 = 45)) => ?_)
          · have hp33 := ivu15_0 (by omega) (by omega)
            refine sv_go C.1 C.2.1 [(.iconst 3, 1)] (pc' := 262) (by decide +kernel) rfl (lv' := [(0, sv_r a), (1, sv_i vu15)]) (st' := [sv_i 3, sv_r a]) rfl ?_
            refine sv_goto C.1 C.2.1 (off := 4) (tgt := 266) (by decide +kernel) (by decide) ?_
            refine sv_pf C (index := 184) (ci := 10) (k := 21) (r := (RX11, TX11, 47)) (z := 3) (by decide +kernel) (by rw [k_a]; rfl) rfl (by decide) rfl fl_X11_184 rfl (Or.inl rfl) ⟨by omega, by omega⟩ (hTA _ (by rw [k_a]; decide)) hok28 (fun hok34 => ?_)
            have hI36 := hI6.up (a := a) (k := 21) (z := 3) (by rw [k_a]; exact ⟨by omega, by omega⟩)
            have hF37 := hF7.up (a := a) (k := 21) (z := 3) (Or.inr (by rw [k_a]; decide))
            generalize eσ35 : sv_up σ5 a 21 3 = σ35 at hok34 hI36 hF37 ⊢
            have t38 : σ35 a 18 = n18 := by rw [← eσ35, sv_up_k (by decide)]; exact t8
            have t39 : σ35 a 20 = Yg1_fa_20 := by rw [← eσ35, sv_up_k (by decide)]; exact t9
            have t40 : σ35 a 19 = Yg1_fa_20 := by rw [← eσ35, sv_up_k (by decide)]; exact t10
            have t41 : σ35 a 21 = 3 := by rw [← eσ35]; exact sv_up_s _ _ _ _
            refine sv_go C.1 C.2.1 [(.aload_n 0, 1), (.dup, 1)] (pc' := 271) (by decide +kernel) rfl (lv' := [(0, sv_r a), (1, sv_i vu15)]) (st' := [sv_r a, sv_r a]) rfl ?_
            refine sv_gf C (index := 178) (ci := 10) (k := 20) (r := (RX11, TX11, 47)) (v := sv_i Yg1_fa_20) (by decide +kernel) (by rw [k_a]; rfl) rfl (by decide) fl_X11_178 (congrArg sv_i t39) ?_
            refine sv_go C.1 C.2.1 [(.iconst 1, 1), (.iadd, 1)] (pc' := 276) (by decide +kernel) rfl (lv' := [(0, sv_r a), (1, sv_i vu15)]) (st' := [sv_i (Yg1_fa_20 + 1), sv_r a]) rfl ?_
            refine sv_pf C (index := 178) (ci := 10) (k := 20) (r := (RX11, TX11, 47)) (z := Yg1_fa_20 + 1) (by decide +kernel) (by rw [k_a]; rfl) rfl (by decide) rfl fl_X11_178 rfl (Or.inl rfl) ⟨by omega, by omega⟩ (hTA _ (by rw [k_a]; decide)) hok34 (fun hok42 => ?_)
            have hI44 := hI36.up (a := a) (k := 20) (z := Yg1_fa_20 + 1) (by rw [k_a]; exact ⟨by omega, by omega⟩)
            have hF45 := hF37.up (a := a) (k := 20) (z := Yg1_fa_20 + 1) (Or.inr (by rw [k_a]; decide))
            generalize eσ43 : sv_up σ35 a 20 (Yg1_fa_20 + 1) = σ43 at hok42 hI44 hF45 ⊢
            have t46 : σ43 a 18 = n18 := by rw [← eσ43, sv_up_k (by decide)]; exact t38
            have t47 : σ43 a 19 = Yg1_fa_20 := by rw [← eσ43, sv_up_k (by decide)]; exact t40
            have t48 : σ43 a 21 = 3 := by rw [← eσ43, sv_up_k (by decide)]; exact t41
            have t49 : σ43 a 20 = Yg1_fa_20 + 1 := by rw [← eσ43]; exact sv_up_s _ _ _ _
            exact sv_vret C hr (by decide +kernel) hok42 (⟨rfl, hI44, hF45, _, _, _, t47, t49, t48, by omega, by omega, by omega, by omega⟩)
          · refine sv_go C.1 C.2.1 [(.iload_n 1, 1), (.bipush 59, 2)] (pc' := 258) (by decide +kernel) rfl (lv' := [(0, sv_r a), (1, sv_i vu15)]) (st' := [sv_i 59, sv_i vu15, sv_r a]) rfl ?_
            refine sv_icmp C.1 C.2.1 (cnd := .ne) (off := 7) (tgt := 265) (by decide +kernel) (by decide) ⟨by omega, by omega⟩ ⟨by omega, by omega⟩ (fun (h50 : vu15 ≠ 59) => ?_) (fun (h50 : ¬ (vu15 ≠ 59)) => ?_)
            · refine sv_go C.1 C.2.1 [(.iconst 4, 1)] (pc' := 266) (by decide +kernel) rfl (lv' := [(0, sv_r a), (1, sv_i vu15)]) (st' := [sv_i 4, sv_r a]) rfl ?_
              refine sv_pf C (index := 184) (ci := 10) (k := 21) (r := (RX11, TX11, 47)) (z := 4) (by decide +kernel) (by rw [k_a]; rfl) rfl (by decide) rfl fl_X11_184 rfl (Or.inl rfl) ⟨by omega, by omega⟩ (hTA _ (by rw [k_a]; decide)) hok28 (fun hok51 => ?_)
              have hI53 := hI6.up (a := a) (k := 21) (z := 4) (by rw [k_a]; exact ⟨by omega, by omega⟩)
              have hF54 := hF7.up (a := a) (k := 21) (z := 4) (Or.inr (by rw [k_a]; decide))
              generalize eσ52 : sv_up σ5 a 21 4 = σ52 at hok51 hI53 hF54 ⊢
              have t55 : σ52 a 18 = n18 := by rw [← eσ52, sv_up_k (by decide)]; exact t8
              have t56 : σ52 a 20 = Yg1_fa_20 := by rw [← eσ52, sv_up_k (by decide)]; exact t9
              have t57 : σ52 a 19 = Yg1_fa_20 := by rw [← eσ52, sv_up_k (by decide)]; exact t10
              have t58 : σ52 a 21 = 4 := by rw [← eσ52]; exact sv_up_s _ _ _ _
              refine sv_go C.1 C.2.1 [(.aload_n 0, 1), (.dup, 1)] (pc' := 271) (by decide +kernel) rfl (lv' := [(0, sv_r a), (1, sv_i vu15)]) (st' := [sv_r a, sv_r a]) rfl ?_
              refine sv_gf C (index := 178) (ci := 10) (k := 20) (r := (RX11, TX11, 47)) (v := sv_i Yg1_fa_20) (by decide +kernel) (by rw [k_a]; rfl) rfl (by decide) fl_X11_178 (congrArg sv_i t56) ?_
              refine sv_go C.1 C.2.1 [(.iconst 1, 1), (.iadd, 1)] (pc' := 276) (by decide +kernel) rfl (lv' := [(0, sv_r a), (1, sv_i vu15)]) (st' := [sv_i (Yg1_fa_20 + 1), sv_r a]) rfl ?_
              refine sv_pf C (index := 178) (ci := 10) (k := 20) (r := (RX11, TX11, 47)) (z := Yg1_fa_20 + 1) (by decide +kernel) (by rw [k_a]; rfl) rfl (by decide) rfl fl_X11_178 rfl (Or.inl rfl) ⟨by omega, by omega⟩ (hTA _ (by rw [k_a]; decide)) hok51 (fun hok59 => ?_)
              have hI61 := hI53.up (a := a) (k := 20) (z := Yg1_fa_20 + 1) (by rw [k_a]; exact ⟨by omega, by omega⟩)
              have hF62 := hF54.up (a := a) (k := 20) (z := Yg1_fa_20 + 1) (Or.inr (by rw [k_a]; decide))
              generalize eσ60 : sv_up σ52 a 20 (Yg1_fa_20 + 1) = σ60 at hok59 hI61 hF62 ⊢
              have t63 : σ60 a 18 = n18 := by rw [← eσ60, sv_up_k (by decide)]; exact t55
              have t64 : σ60 a 19 = Yg1_fa_20 := by rw [← eσ60, sv_up_k (by decide)]; exact t57
              have t65 : σ60 a 21 = 4 := by rw [← eσ60, sv_up_k (by decide)]; exact t58
              have t66 : σ60 a 20 = Yg1_fa_20 + 1 := by rw [← eσ60]; exact sv_up_s _ _ _ _
              exact sv_vret C hr (by decide +kernel) hok59 (⟨rfl, hI61, hF62, _, _, _, t64, t66, t65, by omega, by omega, by omega, by omega⟩)
            · have hp67 := ivu15_0 (by omega) (by omega)
              refine sv_go C.1 C.2.1 [(.iconst 3, 1)] (pc' := 262) (by decide +kernel) rfl (lv' := [(0, sv_r a), (1, sv_i vu15)]) (st' := [sv_i 3, sv_r a]) rfl ?_
              refine sv_goto C.1 C.2.1 (off := 4) (tgt := 266) (by decide +kernel) (by decide) ?_
              refine sv_pf C (index := 184) (ci := 10) (k := 21) (r := (RX11, TX11, 47)) (z := 3) (by decide +kernel) (by rw [k_a]; rfl) rfl (by decide) rfl fl_X11_184 rfl (Or.inl rfl) ⟨by omega, by omega⟩ (hTA _ (by rw [k_a]; decide)) hok28 (fun hok68 => ?_)
              have hI70 := hI6.up (a := a) (k := 21) (z := 3) (by rw [k_a]; exact ⟨by omega, by omega⟩)
              have hF71 := hF7.up (a := a) (k := 21) (z := 3) (Or.inr (by rw [k_a]; decide))
              generalize eσ69 : sv_up σ5 a 21 3 = σ69 at hok68 hI70 hF71 ⊢
              have t72 : σ69 a 18 = n18 := by rw [← eσ69, sv_up_k (by decide)]; exact t8
              have t73 : σ69 a 20 = Yg1_fa_20 := by rw [← eσ69, sv_up_k (by decide)]; exact t9
              have t74 : σ69 a 19 = Yg1_fa_20 := by rw [← eσ69, sv_up_k (by decide)]; exact t10
              have t75 : σ69 a 21 = 3 := by rw [← eσ69]; exact sv_up_s _ _ _ _
              refine sv_go C.1 C.2.1 [(.aload_n 0, 1), (.dup, 1)] (pc' := 271) (by decide +kernel) rfl (lv' := [(0, sv_r a), (1, sv_i vu15)]) (st' := [sv_r a, sv_r a]) rfl ?_
              refine sv_gf C (index := 178) (ci := 10) (k := 20) (r := (RX11, TX11, 47)) (v := sv_i Yg1_fa_20) (by decide +kernel) (by rw [k_a]; rfl) rfl (by decide) fl_X11_178 (congrArg sv_i t73) ?_
              refine sv_go C.1 C.2.1 [(.iconst 1, 1), (.iadd, 1)] (pc' := 276) (by decide +kernel) rfl (lv' := [(0, sv_r a), (1, sv_i vu15)]) (st' := [sv_i (Yg1_fa_20 + 1), sv_r a]) rfl ?_
              refine sv_pf C (index := 178) (ci := 10) (k := 20) (r := (RX11, TX11, 47)) (z := Yg1_fa_20 + 1) (by decide +kernel) (by rw [k_a]; rfl) rfl (by decide) rfl fl_X11_178 rfl (Or.inl rfl) ⟨by omega, by omega⟩ (hTA _ (by rw [k_a]; decide)) hok68 (fun hok76 => ?_)
              have hI78 := hI70.up (a := a) (k := 20) (z := Yg1_fa_20 + 1) (by rw [k_a]; exact ⟨by omega, by omega⟩)
              have hF79 := hF71.up (a := a) (k := 20) (z := Yg1_fa_20 + 1) (Or.inr (by rw [k_a]; decide))
              generalize eσ77 : sv_up σ69 a 20 (Yg1_fa_20 + 1) = σ77 at hok76 hI78 hF79 ⊢
              have t80 : σ77 a 18 = n18 := by rw [← eσ77, sv_up_k (by decide)]; exact t72
              have t81 : σ77 a 19 = Yg1_fa_20 := by rw [← eσ77, sv_up_k (by decide)]; exact t74
              have t82 : σ77 a 21 = 3 := by rw [← eσ77, sv_up_k (by decide)]; exact t75
              have t83 : σ77 a 20 = Yg1_fa_20 + 1 := by rw [← eσ77]; exact sv_up_s _ _ _ _
              exact sv_vret C hr (by decide +kernel) hok76 (⟨rfl, hI78, hF79, _, _, _, t81, t83, t82, by omega, by omega, by omega, by omega⟩)
        · have hp84 := ivu29_0 (by omega) (by omega)
          refine sv_go C.1 C.2.1 [(.aload_n 0, 1), (.iconst 0, 1)] (pc' := 157) (by decide +kernel) rfl (lv' := [(0, sv_r a), (1, sv_i vu15)]) (st' := [sv_i 0, sv_r a]) rfl ?_
          refine sv_pf C (index := 193) (ci := 10) (k := 22) (r := (RX11, TX11, 47)) (z := 0) (by decide +kernel) (by rw [k_a]; rfl) rfl (by decide) rfl fl_X11_193 rfl (Or.inl rfl) ⟨by omega, by omega⟩ (hTA _ (by rw [k_a]; decide)) hok28 (fun hok85 => ?_)
          have hI87 := hI6.up (a := a) (k := 22) (z := 0) (by rw [k_a]; exact trivial)
          have hF88 := hF7.up (a := a) (k := 22) (z := 0) (Or.inr (by rw [k_a]; decide))
          generalize eσ86 : sv_up σ5 a 22 0 = σ86 at hok85 hI87 hF88 ⊢
          have t89 : σ86 a 18 = n18 := by rw [← eσ86, sv_up_k (by decide)]; exact t8
          have t90 : σ86 a 20 = Yg1_fa_20 := by rw [← eσ86, sv_up_k (by decide)]; exact t9
          have t91 : σ86 a 19 = Yg1_fa_20 := by rw [← eσ86, sv_up_k (by decide)]; exact t10
          have t92 : σ86 a 22 = 0 := by rw [← eσ86]; exact sv_up_s _ _ _ _
          have L95 : ∀ (n : Nat) (Xg93_fa_20 : Int) (Xg93_fa_22 : Int) (σ94 : Nat → Nat → Int), (0 ≤ Xg93_fa_20 ∧ Xg93_fa_20 ≤ 4001) → ((-2147483648) ≤ Xg93_fa_22 ∧ Xg93_fa_22 ≤ 2147483647) → (sv_ok ty σ94) → (sv_inv sp_1 ty σ94) → (sv_ofx [(10, 19), (10, 20), (10, 21), (10, 22)] [] ty σ σ94) → (σ94 a 18 = n18) → (σ94 a 20 = Xg93_fa_20) → (σ94 a 19 = Yg1_fa_20) → (σ94 a 22 = Xg93_fa_22) → (Yg1_fa_20 ≤ Xg93_fa_20 ∧ Xg93_fa_20 ≤ n18) → (Yg1_fa_20 < Xg93_fa_20 ∨ (Xg93_fa_20 = Yg1_fa_20 ∧ zq_at σ94 a Xg93_fa_20 = vu15)) → (4000 - Xg93_fa_20) < (n : Int) → sv_E p l e { frames := 1, cells := 0, slots := 0, locals := 21 } s m args below meth c 2 g A ty (fun r σ' => (r = []) ∧ sv_inv sp_1 ty σ' ∧ sv_ofx [(10, 19), (10, 20), (10, 21), (10, 22)] [] ty σ σ' ∧ ∃ c1 c2 hc : Int, σ' a 19 = c1 ∧ σ' a 20 = c2 ∧ σ' a 21 = hc ∧ (n20 ≤ c1 ∧ c1 ≤ c2 ∧ c2 ≤ n18) ∧ (0 ≤ hc ∧ hc ≤ 4) ∧ (hc = 0 ∨ c1 < c2) ∧ (hc ≠ 1 ∨ c2 ≤ c1 + 12)) σ94 160 [(0, sv_r a)] [] := by
            intro n
            induction n with
            | zero => intro Xg93_fa_20 Xg93_fa_22 σ94 hXg93_fa_20 hXg93_fa_22 okσ94 Iσ94 Fσ94 eσ94_0 eσ94_1 eσ94_2 eσ94_3 zd0 zd1 hmu; exact absurd hmu (by omega)
            | succ n ih96 =>
              intro Xg93_fa_20 Xg93_fa_22 σ94 hXg93_fa_20 hXg93_fa_22 okσ94 Iσ94 Fσ94 eσ94_0 eσ94_1 eσ94_2 eσ94_3 zd0 zd1 hmu
              refine sv_go C.1 C.2.1 [(.aload_n 0, 1), (.aload_n 0, 1)] (pc' := 162) (by decide +kernel) rfl (lv' := [(0, sv_r a)]) (st' := [sv_r a, sv_r a]) rfl ?_
              refine sv_gf C (index := 178) (ci := 10) (k := 20) (r := (RX11, TX11, 47)) (v := sv_i Xg93_fa_20) (by decide +kernel) (by rw [k_a]; rfl) rfl (by decide) fl_X11_178 (congrArg sv_i eσ94_1) ?_
              refine sv_cv C (index := 181) (k := 1) (rest := []) (ci := 10) (r := (RX11, TX11, 47)) (by decide +kernel) (sf_X11_byteAt l g A ty σ94 okσ94 hTA Iσ94 a k_a (Xg93_fa_20) ⟨by omega, by omega⟩) ⟨co_X11_byteAt, in_X11, ⟨by decide, by decide, by decide +kernel⟩, Nat.le_of_ble_eq_true rfl, Nat.le_of_ble_eq_true rfl⟩ ml_X11_181 im_X11_byteAt se_X11_byteAt (by rw [k_a]; rfl) rfl rfl rfl (Nat.le_of_ble_eq_true rfl) ⟨Nat.zero_le _, Nat.zero_le _⟩ (fun r98 σ99 hpo97 hok100 => ?_)
              obtain ⟨rfl, ⟨vu101, rfl, hvu101, ivu101_0, ivu101_1⟩⟩ := hpo97
              have hp102 := ivu15_0 (by omega) (by omega)
              have hp103 := ivu101_1 (by omega) (by omega)
              refine sv_same (st2 := [sv_i vu101]) (lv2 := [(0, sv_r a)]) rfl rfl ?_
              refine sv_cs C (index := 190) (k := 1) (rest := []) (by decide +kernel) (sf2_X11_isDigit l g A ty σ94 hok100 hTA Iσ94 (vu101) ⟨by omega, by omega⟩) ⟨co_X11_isDigit, in_X11, ⟨by decide, by decide, by decide +kernel⟩, Nat.le_of_ble_eq_true rfl, Nat.le_of_ble_eq_true rfl⟩ ml_X11_190 st_X11_isDigit rfl rfl (Nat.le_of_ble_eq_true rfl) ⟨Nat.zero_le _, Nat.zero_le _⟩ (fun r105 σ106 hpo104 hok107 => ?_)
              obtain ⟨rfl, ⟨vu108, rfl, hvu108, ivu108_0, ivu108_1⟩⟩ := hpo104
              refine sv_same (st2 := [sv_i vu108]) (lv2 := [(0, sv_r a)]) rfl rfl ?_
              refine sv_if C.1 C.2.1 (cnd := .eq) (off := 52) (tgt := 223) (by decide +kernel) (by decide) ⟨by omega, by omega⟩ (fun (h109 : vu108 = 0) => ?_) (fun (h109 : ¬ (vu108 = 0)) => ?_)
              · have hp110 := ivu108_1 (by omega) (by omega)
                refine sv_go C.1 C.2.1 [(.aload_n 0, 1), (.aload_n 0, 1)] (pc' := 225) (by decide +kernel) rfl (lv' := [(0, sv_r a)]) (st' := [sv_r a, sv_r a]) rfl ?_
                refine sv_gf C (index := 178) (ci := 10) (k := 20) (r := (RX11, TX11, 47)) (v := sv_i Xg93_fa_20) (by decide +kernel) (by rw [k_a]; rfl) rfl (by decide) fl_X11_178 (congrArg sv_i eσ94_1) ?_
                refine sv_go C.1 C.2.1 [(.aload_n 0, 1)] (pc' := 229) (by decide +kernel) rfl (lv' := [(0, sv_r a)]) (st' := [sv_r a, sv_i Xg93_fa_20, sv_r a]) rfl ?_
                refine sv_gf C (index := 172) (ci := 10) (k := 19) (r := (RX11, TX11, 47)) (v := sv_i Yg1_fa_20) (by decide +kernel) (by rw [k_a]; rfl) rfl (by decide) fl_X11_172 (congrArg sv_i eσ94_2) ?_
                refine sv_go C.1 C.2.1 [(.isub, 1), (.iconst 4, 1)] (pc' := 234) (by decide +kernel) rfl (lv' := [(0, sv_r a)]) (st' := [sv_i 4, sv_i (Xg93_fa_20 - Yg1_fa_20), sv_r a]) rfl ?_
                refine sv_icmp C.1 C.2.1 (cnd := .le) (off := 7) (tgt := 241) (by decide +kernel) (by decide) ⟨by omega, by omega⟩ ⟨by omega, by omega⟩ (fun (h111 : (Xg93_fa_20 - Yg1_fa_20) ≤ 4) => ?_) (fun (h111 : ¬ ((Xg93_fa_20 - Yg1_fa_20) ≤ 4)) => ?_)
                · refine sv_go C.1 C.2.1 [(.iconst 2, 1)] (pc' := 242) (by decide +kernel) rfl (lv' := [(0, sv_r a)]) (st' := [sv_i 2, sv_r a]) rfl ?_
                  refine sv_pf C (index := 184) (ci := 10) (k := 21) (r := (RX11, TX11, 47)) (z := 2) (by decide +kernel) (by rw [k_a]; rfl) rfl (by decide) rfl fl_X11_184 rfl (Or.inl rfl) ⟨by omega, by omega⟩ (hTA _ (by rw [k_a]; decide)) hok107 (fun hok112 => ?_)
                  have hI114 := Iσ94.up (a := a) (k := 21) (z := 2) (by rw [k_a]; exact ⟨by omega, by omega⟩)
                  have hF115 := Fσ94.up (a := a) (k := 21) (z := 2) (Or.inr (by rw [k_a]; decide))
                  generalize eσ113 : sv_up σ94 a 21 2 = σ113 at hok112 hI114 hF115 ⊢
                  have t116 : σ113 a 18 = n18 := by rw [← eσ113, sv_up_k (by decide)]; exact eσ94_0
                  have t117 : σ113 a 20 = Xg93_fa_20 := by rw [← eσ113, sv_up_k (by decide)]; exact eσ94_1
                  have t118 : σ113 a 19 = Yg1_fa_20 := by rw [← eσ113, sv_up_k (by decide)]; exact eσ94_2
                  have t119 : σ113 a 22 = Xg93_fa_22 := by rw [← eσ113, sv_up_k (by decide)]; exact eσ94_3
                  have t120 : σ113 a 21 = 2 := by rw [← eσ113]; exact sv_up_s _ _ _ _
                  refine sv_goto C.1 C.2.1 (off := 34) (tgt := 279) (by decide +kernel) (by decide) ?_
                  exact sv_vret C hr (by decide +kernel) hok112 (⟨rfl, hI114, hF115, _, _, _, t118, t117, t120, by omega, by omega, by omega, by omega⟩)
                · refine sv_go C.1 C.2.1 [(.iconst 4, 1)] (pc' := 238) (by decide +kernel) rfl (lv' := [(0, sv_r a)]) (st' := [sv_i 4, sv_r a]) rfl ?_
                  refine sv_goto C.1 C.2.1 (off := 4) (tgt := 242) (by decide +kernel) (by decide) ?_
                  refine sv_pf C (index := 184) (ci := 10) (k := 21) (r := (RX11, TX11, 47)) (z := 4) (by decide +kernel) (by rw [k_a]; rfl) rfl (by decide) rfl fl_X11_184 rfl (Or.inl rfl) ⟨by omega, by omega⟩ (hTA _ (by rw [k_a]; decide)) hok107 (fun hok121 => ?_)
                  have hI123 := Iσ94.up (a := a) (k := 21) (z := 4) (by rw [k_a]; exact ⟨by omega, by omega⟩)
                  have hF124 := Fσ94.up (a := a) (k := 21) (z := 4) (Or.inr (by rw [k_a]; decide))
                  generalize eσ122 : sv_up σ94 a 21 4 = σ122 at hok121 hI123 hF124 ⊢
                  have t125 : σ122 a 18 = n18 := by rw [← eσ122, sv_up_k (by decide)]; exact eσ94_0
                  have t126 : σ122 a 20 = Xg93_fa_20 := by rw [← eσ122, sv_up_k (by decide)]; exact eσ94_1
                  have t127 : σ122 a 19 = Yg1_fa_20 := by rw [← eσ122, sv_up_k (by decide)]; exact eσ94_2
                  have t128 : σ122 a 22 = Xg93_fa_22 := by rw [← eσ122, sv_up_k (by decide)]; exact eσ94_3
                  have t129 : σ122 a 21 = 4 := by rw [← eσ122]; exact sv_up_s _ _ _ _
                  refine sv_goto C.1 C.2.1 (off := 34) (tgt := 279) (by decide +kernel) (by decide) ?_
                  exact sv_vret C hr (by decide +kernel) hok121 (⟨rfl, hI123, hF124, _, _, _, t127, t126, t129, by omega, by omega, by omega, by omega⟩)
              · have hp130 := ivu108_0 (by omega) (by omega)
                refine sv_go C.1 C.2.1 [(.aload_n 0, 1)] (pc' := 175) (by decide +kernel) rfl (lv' := [(0, sv_r a)]) (st' := [sv_r a]) rfl ?_
                refine sv_gf C (index := 178) (ci := 10) (k := 20) (r := (RX11, TX11, 47)) (v := sv_i Xg93_fa_20) (by decide +kernel) (by rw [k_a]; rfl) rfl (by decide) fl_X11_178 (congrArg sv_i eσ94_1) ?_
                refine sv_go C.1 C.2.1 [(.aload_n 0, 1)] (pc' := 179) (by decide +kernel) rfl (lv' := [(0, sv_r a)]) (st' := [sv_r a, sv_i Xg93_fa_20]) rfl ?_
                refine sv_gf C (index := 172) (ci := 10) (k := 19) (r := (RX11, TX11, 47)) (v := sv_i Yg1_fa_20) (by decide +kernel) (by rw [k_a]; rfl) rfl (by decide) fl_X11_172 (congrArg sv_i eσ94_2) ?_
                refine sv_go C.1 C.2.1 [(.isub, 1), (.iconst 4, 1)] (pc' := 184) (by decide +kernel) rfl (lv' := [(0, sv_r a)]) (st' := [sv_i 4, sv_i (Xg93_fa_20 - Yg1_fa_20)]) rfl ?_
                have J134 : ∀ (Jg132_fa_22 : Int) (σ133 : Nat → Nat → Int), ((-2147483648) ≤ Jg132_fa_22 ∧ Jg132_fa_22 ≤ 2147483647) → (sv_ok ty σ133) → (sv_inv sp_1 ty σ133) → (sv_ofx [(10, 19), (10, 20), (10, 21), (10, 22)] [] ty σ σ133) → (σ133 a 18 = n18) → (σ133 a 20 = Xg93_fa_20) → (σ133 a 19 = Yg1_fa_20) → (σ133 a 22 = Jg132_fa_22) → sv_E p l e { frames := 1, cells := 0, slots := 0, locals := 21 } s m args below meth c 2 g A ty (fun r σ' => (r = []) ∧ sv_inv sp_1 ty σ' ∧ sv_ofx [(10, 19), (10, 20), (10, 21), (10, 22)] [] ty σ σ' ∧ ∃ c1 c2 hc : Int, σ' a 19 = c1 ∧ σ' a 20 = c2 ∧ σ' a 21 = hc ∧ (n20 ≤ c1 ∧ c1 ≤ c2 ∧ c2 ≤ n18) ∧ (0 ≤ hc ∧ hc ≤ 4) ∧ (hc = 0 ∨ c1 < c2) ∧ (hc ≠ 1 ∨ c2 ≤ c1 + 12)) σ133 210 [(0, sv_r a)] [] := by
                  intro Jg132_fa_22 σ133 hJg132_fa_22 okσ133 Iσ133 Fσ133 eσ133_0 eσ133_1 eσ133_2 eσ133_3
                  refine sv_go C.1 C.2.1 [(.aload_n 0, 1), (.dup, 1)] (pc' := 212) (by decide +kernel) rfl (lv' := [(0, sv_r a)]) (st' := [sv_r a, sv_r a]) rfl ?_
                  refine sv_gf C (index := 178) (ci := 10) (k := 20) (r := (RX11, TX11, 47)) (v := sv_i Xg93_fa_20) (by decide +kernel) (by rw [k_a]; rfl) rfl (by decide) fl_X11_178 (congrArg sv_i eσ133_1) ?_
                  refine sv_go C.1 C.2.1 [(.iconst 1, 1), (.iadd, 1)] (pc' := 217) (by decide +kernel) rfl (lv' := [(0, sv_r a)]) (st' := [sv_i (Xg93_fa_20 + 1), sv_r a]) rfl ?_
                  refine sv_pf C (index := 178) (ci := 10) (k := 20) (r := (RX11, TX11, 47)) (z := Xg93_fa_20 + 1) (by decide +kernel) (by rw [k_a]; rfl) rfl (by decide) rfl fl_X11_178 rfl (Or.inl rfl) ⟨by omega, by omega⟩ (hTA _ (by rw [k_a]; decide)) okσ133 (fun hok135 => ?_)
                  have hI137 := Iσ133.up (a := a) (k := 20) (z := Xg93_fa_20 + 1) (by rw [k_a]; exact ⟨by omega, by omega⟩)
                  have hF138 := Fσ133.up (a := a) (k := 20) (z := Xg93_fa_20 + 1) (Or.inr (by rw [k_a]; decide))
                  generalize eσ136 : sv_up σ133 a 20 (Xg93_fa_20 + 1) = σ136 at hok135 hI137 hF138 ⊢
                  have t139 : σ136 a 18 = n18 := by rw [← eσ136, sv_up_k (by decide)]; exact eσ133_0
                  have t140 : σ136 a 19 = Yg1_fa_20 := by rw [← eσ136, sv_up_k (by decide)]; exact eσ133_2
                  have t141 : σ136 a 22 = Jg132_fa_22 := by rw [← eσ136, sv_up_k (by decide)]; exact eσ133_3
                  have t142 : σ136 a 20 = Xg93_fa_20 + 1 := by rw [← eσ136]; exact sv_up_s _ _ _ _
                  refine sv_goto C.1 C.2.1 (off := (-60)) (tgt := 160) (by decide +kernel) (by decide) ?_
                  exact ih96 (Xg93_fa_20 + 1) Jg132_fa_22 σ136 ⟨by omega, by omega⟩ ⟨by omega, by omega⟩ hok135 hI137 hF138 t139 t142 t140 t141 (by omega) (by first | omega | (have hz := zq_at_up (j := Xg93_fa_20 + 1) eσ136 hI137 k_a (by decide) (by decide); omega)) (by omega)
                refine sv_icmp C.1 C.2.1 (cnd := .ge) (off := 26) (tgt := 210) (by decide +kernel) (by decide) ⟨by omega, by omega⟩ ⟨by omega, by omega⟩ (fun (h131 : 4 ≤ (Xg93_fa_20 - Yg1_fa_20)) => ?_) (fun (h131 : ¬ (4 ≤ (Xg93_fa_20 - Yg1_fa_20))) => ?_)
                · have hp143 := ivu101_0 (by omega) (by omega)
                  exact J134 Xg93_fa_22 σ94 ⟨by omega, by omega⟩ hok107 Iσ94 Fσ94 eσ94_0 eσ94_1 eσ94_2 eσ94_3
                · have hp144 := ivu101_0 (by omega) (by omega)
                  refine sv_go C.1 C.2.1 [(.aload_n 0, 1), (.bipush 10, 2), (.aload_n 0, 1)] (pc' := 191) (by decide +kernel) rfl (lv' := [(0, sv_r a)]) (st' := [sv_r a, sv_i 10, sv_r a]) rfl ?_
                  refine sv_gf C (index := 193) (ci := 10) (k := 22) (r := (RX11, TX11, 47)) (v := sv_i Xg93_fa_22) (by decide +kernel) (by rw [k_a]; rfl) rfl (by decide) fl_X11_193 (congrArg sv_i eσ94_3) ?_
                  refine sv_go C.1 C.2.1 [(.imul, 1), (.aload_n 0, 1), (.aload_n 0, 1)] (pc' := 197) (by decide +kernel) rfl (lv' := [(0, sv_r a)]) (st' := [sv_r a, sv_r a, sv_i (10 * Xg93_fa_22), sv_r a]) rfl ?_
                  refine sv_gf C (index := 178) (ci := 10) (k := 20) (r := (RX11, TX11, 47)) (v := sv_i Xg93_fa_20) (by decide +kernel) (by rw [k_a]; rfl) rfl (by decide) fl_X11_178 (congrArg sv_i eσ94_1) ?_
                  refine sv_cv C (index := 181) (k := 1) (rest := [sv_i (10 * Xg93_fa_22), sv_r a]) (ci := 10) (r := (RX11, TX11, 47)) (by decide +kernel) (sf_X11_byteAt l g A ty σ94 hok107 hTA Iσ94 a k_a (Xg93_fa_20) ⟨by omega, by omega⟩) ⟨co_X11_byteAt, in_X11, ⟨by decide, by decide, by decide +kernel⟩, Nat.le_of_ble_eq_true rfl, Nat.le_of_ble_eq_true rfl⟩ ml_X11_181 im_X11_byteAt se_X11_byteAt (by rw [k_a]; rfl) rfl rfl rfl (Nat.le_of_ble_eq_true rfl) ⟨Nat.zero_le _, Nat.zero_le _⟩ (fun r146 σ147 hpo145 hok148 => ?_)
                  obtain ⟨rfl, ⟨vu149, rfl, hvu149, ivu149_0, ivu149_1⟩⟩ := hpo145
                  have hp150 := ivu149_1 (by omega) (by omega)
                  refine sv_same (st2 := [sv_i vu149, sv_i (10 * Xg93_fa_22), sv_r a]) (lv2 := [(0, sv_r a)]) rfl rfl ?_
                  refine sv_go C.1 C.2.1 [(.iadd, 1), (.bipush 48, 2), (.isub, 1)] (pc' := 207) (by decide +kernel) rfl (lv' := [(0, sv_r a)]) (st' := [sv_i (((10 * Xg93_fa_22) + vu149) - 48), sv_r a]) rfl ?_
                  obtain ⟨w151, hw151, ew151⟩ := sv_wr (((10 * Xg93_fa_22) + vu149) - 48)
                  refine sv_sameD (st2 := [sv_i w151, sv_r a]) (lv2 := [(0, sv_r a)]) (by simp only [List.map_cons, List.map_nil, sv_den_i, ew151]) rfl ?_
                  refine sv_pf C (index := 193) (ci := 10) (k := 22) (r := (RX11, TX11, 47)) (z := w151) (by decide +kernel) (by rw [k_a]; rfl) rfl (by decide) rfl fl_X11_193 rfl (Or.inl rfl) ⟨by omega, by omega⟩ (hTA _ (by rw [k_a]; decide)) hok148 (fun hok152 => ?_)
                  have hI154 := Iσ94.up (a := a) (k := 22) (z := w151) (by rw [k_a]; exact trivial)
                  have hF155 := Fσ94.up (a := a) (k := 22) (z := w151) (Or.inr (by rw [k_a]; decide))
                  generalize eσ153 : sv_up σ94 a 22 w151 = σ153 at hok152 hI154 hF155 ⊢
                  have t156 : σ153 a 18 = n18 := by rw [← eσ153, sv_up_k (by decide)]; exact eσ94_0
                  have t157 : σ153 a 20 = Xg93_fa_20 := by rw [← eσ153, sv_up_k (by decide)]; exact eσ94_1
                  have t158 : σ153 a 19 = Yg1_fa_20 := by rw [← eσ153, sv_up_k (by decide)]; exact eσ94_2
                  have t159 : σ153 a 22 = w151 := by rw [← eσ153]; exact sv_up_s _ _ _ _
                  exact J134 w151 σ153 ⟨by omega, by omega⟩ hok152 hI154 hF155 t156 t157 t158 t159
          refine sv_pick [0] (lv2 := [(0, sv_r a)]) rfl ?_
          exact L95 (((4000 - Yg1_fa_20 : Int)).toNat + 1) Yg1_fa_20 0 σ86 ⟨by omega, by omega⟩ ⟨by omega, by omega⟩ hok85 hI87 hF88 t89 t90 t91 t92 (by omega) (by first | omega | (have hz := zq_at_up (j := Yg1_fa_20) eσ86 hI87 k_a (by decide) (by decide); omega)) (by omega)
      · have hp160 := ivu22_0 (by omega) (by omega)
        have L163 : ∀ (n : Nat) (Xg161_fa_20 : Int) (σ162 : Nat → Nat → Int), (0 ≤ Xg161_fa_20 ∧ Xg161_fa_20 ≤ 4001) → (sv_ok ty σ162) → (sv_inv sp_1 ty σ162) → (sv_ofx [(10, 19), (10, 20), (10, 21), (10, 22)] [] ty σ σ162) → (σ162 a 18 = n18) → (σ162 a 20 = Xg161_fa_20) → (σ162 a 19 = Yg1_fa_20) → (Yg1_fa_20 ≤ Xg161_fa_20 ∧ Xg161_fa_20 ≤ n18) → (Yg1_fa_20 < Xg161_fa_20 ∨ (Xg161_fa_20 = Yg1_fa_20 ∧ zq_at σ162 a Xg161_fa_20 = vu15)) → (4000 - Xg161_fa_20) < (n : Int) → sv_E p l e { frames := 1, cells := 0, slots := 0, locals := 21 } s m args below meth c 2 g A ty (fun r σ' => (r = []) ∧ sv_inv sp_1 ty σ' ∧ sv_ofx [(10, 19), (10, 20), (10, 21), (10, 22)] [] ty σ σ' ∧ ∃ c1 c2 hc : Int, σ' a 19 = c1 ∧ σ' a 20 = c2 ∧ σ' a 21 = hc ∧ (n20 ≤ c1 ∧ c1 ≤ c2 ∧ c2 ≤ n18) ∧ (0 ≤ hc ∧ hc ≤ 4) ∧ (hc = 0 ∨ c1 < c2) ∧ (hc ≠ 1 ∨ c2 ≤ c1 + 12)) σ162 95 [(0, sv_r a)] [] := by
          intro n
          induction n with
          | zero => intro Xg161_fa_20 σ162 hXg161_fa_20 okσ162 Iσ162 Fσ162 eσ162_0 eσ162_1 eσ162_2 zw0 zw1 hmu; exact absurd hmu (by omega)
          | succ n ih164 =>
            intro Xg161_fa_20 σ162 hXg161_fa_20 okσ162 Iσ162 Fσ162 eσ162_0 eσ162_1 eσ162_2 zw0 zw1 hmu
            refine sv_go C.1 C.2.1 [(.aload_n 0, 1), (.aload_n 0, 1)] (pc' := 97) (by decide +kernel) rfl (lv' := [(0, sv_r a)]) (st' := [sv_r a, sv_r a]) rfl ?_
            refine sv_gf C (index := 178) (ci := 10) (k := 20) (r := (RX11, TX11, 47)) (v := sv_i Xg161_fa_20) (by decide +kernel) (by rw [k_a]; rfl) rfl (by decide) fl_X11_178 (congrArg sv_i eσ162_1) ?_
            refine sv_cv C (index := 181) (k := 1) (rest := []) (ci := 10) (r := (RX11, TX11, 47)) (by decide +kernel) (sf_X11_byteAt l g A ty σ162 okσ162 hTA Iσ162 a k_a (Xg161_fa_20) ⟨by omega, by omega⟩) ⟨co_X11_byteAt, in_X11, ⟨by decide, by decide, by decide +kernel⟩, Nat.le_of_ble_eq_true rfl, Nat.le_of_ble_eq_true rfl⟩ ml_X11_181 im_X11_byteAt se_X11_byteAt (by rw [k_a]; rfl) rfl rfl rfl (Nat.le_of_ble_eq_true rfl) ⟨Nat.zero_le _, Nat.zero_le _⟩ (fun r166 σ167 hpo165 hok168 => ?_)
            obtain ⟨rfl, ⟨vu169, rfl, hvu169, ivu169_0, ivu169_1⟩⟩ := hpo165
            have hp170 := ivu15_0 (by omega) (by omega)
            have hp171 := ivu169_1 (by omega) (by omega)
            refine sv_same (st2 := [sv_i vu169]) (lv2 := [(0, sv_r a)]) rfl rfl ?_
            refine sv_cs C (index := 187) (k := 1) (rest := []) (by decide +kernel) (sf2_X11_isLetter l g A ty σ162 hok168 hTA Iσ162 (vu169) ⟨by omega, by omega⟩) ⟨co_X11_isLetter, in_X11, ⟨by decide, by decide, by decide +kernel⟩, Nat.le_of_ble_eq_true rfl, Nat.le_of_ble_eq_true rfl⟩ ml_X11_187 st_X11_isLetter rfl rfl (Nat.le_of_ble_eq_true rfl) ⟨Nat.zero_le _, Nat.zero_le _⟩ (fun r173 σ174 hpo172 hok175 => ?_)
            obtain ⟨rfl, ⟨vu176, rfl, hvu176, ivu176_0, ivu176_1⟩⟩ := hpo172
            refine sv_same (st2 := [sv_i vu176]) (lv2 := [(0, sv_r a)]) rfl rfl ?_
            refine sv_if C.1 C.2.1 (cnd := .eq) (off := 16) (tgt := 122) (by decide +kernel) (by decide) ⟨by omega, by omega⟩ (fun (h177 : vu176 = 0) => ?_) (fun (h177 : ¬ (vu176 = 0)) => ?_)
            · have hp178 := ivu176_1 (by omega) (by omega)
              refine sv_go C.1 C.2.1 [(.aload_n 0, 1), (.aload_n 0, 1)] (pc' := 124) (by decide +kernel) rfl (lv' := [(0, sv_r a)]) (st' := [sv_r a, sv_r a]) rfl ?_
              refine sv_gf C (index := 178) (ci := 10) (k := 20) (r := (RX11, TX11, 47)) (v := sv_i Xg161_fa_20) (by decide +kernel) (by rw [k_a]; rfl) rfl (by decide) fl_X11_178 (congrArg sv_i eσ162_1) ?_
              refine sv_go C.1 C.2.1 [(.aload_n 0, 1)] (pc' := 128) (by decide +kernel) rfl (lv' := [(0, sv_r a)]) (st' := [sv_r a, sv_i Xg161_fa_20, sv_r a]) rfl ?_
              refine sv_gf C (index := 172) (ci := 10) (k := 19) (r := (RX11, TX11, 47)) (v := sv_i Yg1_fa_20) (by decide +kernel) (by rw [k_a]; rfl) rfl (by decide) fl_X11_172 (congrArg sv_i eσ162_2) ?_
              refine sv_go C.1 C.2.1 [(.isub, 1), (.bipush 12, 2)] (pc' := 134) (by decide +kernel) rfl (lv' := [(0, sv_r a)]) (st' := [sv_i 12, sv_i (Xg161_fa_20 - Yg1_fa_20), sv_r a]) rfl ?_
              refine sv_icmp C.1 C.2.1 (cnd := .le) (off := 7) (tgt := 141) (by decide +kernel) (by decide) ⟨by omega, by omega⟩ ⟨by omega, by omega⟩ (fun (h179 : (Xg161_fa_20 - Yg1_fa_20) ≤ 12) => ?_) (fun (h179 : ¬ ((Xg161_fa_20 - Yg1_fa_20) ≤ 12)) => ?_)
              · refine sv_go C.1 C.2.1 [(.iconst 1, 1)] (pc' := 142) (by decide +kernel) rfl (lv' := [(0, sv_r a)]) (st' := [sv_i 1, sv_r a]) rfl ?_
                refine sv_pf C (index := 184) (ci := 10) (k := 21) (r := (RX11, TX11, 47)) (z := 1) (by decide +kernel) (by rw [k_a]; rfl) rfl (by decide) rfl fl_X11_184 rfl (Or.inl rfl) ⟨by omega, by omega⟩ (hTA _ (by rw [k_a]; decide)) hok175 (fun hok180 => ?_)
                have hI182 := Iσ162.up (a := a) (k := 21) (z := 1) (by rw [k_a]; exact ⟨by omega, by omega⟩)
                have hF183 := Fσ162.up (a := a) (k := 21) (z := 1) (Or.inr (by rw [k_a]; decide))
                generalize eσ181 : sv_up σ162 a 21 1 = σ181 at hok180 hI182 hF183 ⊢
                have t184 : σ181 a 18 = n18 := by rw [← eσ181, sv_up_k (by decide)]; exact eσ162_0
                have t185 : σ181 a 20 = Xg161_fa_20 := by rw [← eσ181, sv_up_k (by decide)]; exact eσ162_1
                have t186 : σ181 a 19 = Yg1_fa_20 := by rw [← eσ181, sv_up_k (by decide)]; exact eσ162_2
                have t187 : σ181 a 21 = 1 := by rw [← eσ181]; exact sv_up_s _ _ _ _
                refine sv_goto C.1 C.2.1 (off := 134) (tgt := 279) (by decide +kernel) (by decide) ?_
                exact sv_vret C hr (by decide +kernel) hok180 (⟨rfl, hI182, hF183, _, _, _, t186, t185, t187, by omega, by omega, by omega, by omega⟩)
              · refine sv_go C.1 C.2.1 [(.iconst 4, 1)] (pc' := 138) (by decide +kernel) rfl (lv' := [(0, sv_r a)]) (st' := [sv_i 4, sv_r a]) rfl ?_
                refine sv_goto C.1 C.2.1 (off := 4) (tgt := 142) (by decide +kernel) (by decide) ?_
                refine sv_pf C (index := 184) (ci := 10) (k := 21) (r := (RX11, TX11, 47)) (z := 4) (by decide +kernel) (by rw [k_a]; rfl) rfl (by decide) rfl fl_X11_184 rfl (Or.inl rfl) ⟨by omega, by omega⟩ (hTA _ (by rw [k_a]; decide)) hok175 (fun hok188 => ?_)
                have hI190 := Iσ162.up (a := a) (k := 21) (z := 4) (by rw [k_a]; exact ⟨by omega, by omega⟩)
                have hF191 := Fσ162.up (a := a) (k := 21) (z := 4) (Or.inr (by rw [k_a]; decide))
                generalize eσ189 : sv_up σ162 a 21 4 = σ189 at hok188 hI190 hF191 ⊢
                have t192 : σ189 a 18 = n18 := by rw [← eσ189, sv_up_k (by decide)]; exact eσ162_0
                have t193 : σ189 a 20 = Xg161_fa_20 := by rw [← eσ189, sv_up_k (by decide)]; exact eσ162_1
                have t194 : σ189 a 19 = Yg1_fa_20 := by rw [← eσ189, sv_up_k (by decide)]; exact eσ162_2
                have t195 : σ189 a 21 = 4 := by rw [← eσ189]; exact sv_up_s _ _ _ _
                refine sv_goto C.1 C.2.1 (off := 134) (tgt := 279) (by decide +kernel) (by decide) ?_
                exact sv_vret C hr (by decide +kernel) hok188 (⟨rfl, hI190, hF191, _, _, _, t194, t193, t195, by omega, by omega, by omega, by omega⟩)
            · have hp196 := ivu176_0 (by omega) (by omega)
              refine sv_go C.1 C.2.1 [(.aload_n 0, 1), (.dup, 1)] (pc' := 111) (by decide +kernel) rfl (lv' := [(0, sv_r a)]) (st' := [sv_r a, sv_r a]) rfl ?_
              refine sv_gf C (index := 178) (ci := 10) (k := 20) (r := (RX11, TX11, 47)) (v := sv_i Xg161_fa_20) (by decide +kernel) (by rw [k_a]; rfl) rfl (by decide) fl_X11_178 (congrArg sv_i eσ162_1) ?_
              refine sv_go C.1 C.2.1 [(.iconst 1, 1), (.iadd, 1)] (pc' := 116) (by decide +kernel) rfl (lv' := [(0, sv_r a)]) (st' := [sv_i (Xg161_fa_20 + 1), sv_r a]) rfl ?_
              refine sv_pf C (index := 178) (ci := 10) (k := 20) (r := (RX11, TX11, 47)) (z := Xg161_fa_20 + 1) (by decide +kernel) (by rw [k_a]; rfl) rfl (by decide) rfl fl_X11_178 rfl (Or.inl rfl) ⟨by omega, by omega⟩ (hTA _ (by rw [k_a]; decide)) hok175 (fun hok197 => ?_)
              have hI199 := Iσ162.up (a := a) (k := 20) (z := Xg161_fa_20 + 1) (by rw [k_a]; exact ⟨by omega, by omega⟩)
              have hF200 := Fσ162.up (a := a) (k := 20) (z := Xg161_fa_20 + 1) (Or.inr (by rw [k_a]; decide))
              generalize eσ198 : sv_up σ162 a 20 (Xg161_fa_20 + 1) = σ198 at hok197 hI199 hF200 ⊢
              have t201 : σ198 a 18 = n18 := by rw [← eσ198, sv_up_k (by decide)]; exact eσ162_0
              have t202 : σ198 a 19 = Yg1_fa_20 := by rw [← eσ198, sv_up_k (by decide)]; exact eσ162_2
              have t203 : σ198 a 20 = Xg161_fa_20 + 1 := by rw [← eσ198]; exact sv_up_s _ _ _ _
              refine sv_goto C.1 C.2.1 (off := (-24)) (tgt := 95) (by decide +kernel) (by decide) ?_
              exact ih164 (Xg161_fa_20 + 1) σ198 ⟨by omega, by omega⟩ hok197 hI199 hF200 t201 t203 t202 (by omega) (by first | omega | (have hz := zq_at_up (j := Xg161_fa_20 + 1) eσ198 hI199 k_a (by decide) (by decide); omega)) (by omega)
        refine sv_pick [0] (lv2 := [(0, sv_r a)]) rfl ?_
        exact L163 (((4000 - Yg1_fa_20 : Int)).toNat + 1) Yg1_fa_20 σ5 ⟨by omega, by omega⟩ hok21 hI6 hF7 t8 t9 t10 (by omega) (by first | omega | (have hz := zq_at_up (j := Yg1_fa_20) eσ5 hI6 k_a (by decide) (by decide); omega)) (by omega)
    · refine sv_go C.1 C.2.1 [(.aload_n 0, 1), (.iconst 0, 1)] (pc' := 82) (by decide +kernel) rfl (lv' := [(0, sv_r a), (1, sv_i vu15)]) (st' := [sv_i 0, sv_r a]) rfl ?_
      refine sv_pf C (index := 184) (ci := 10) (k := 21) (r := (RX11, TX11, 47)) (z := 0) (by decide +kernel) (by rw [k_a]; rfl) rfl (by decide) rfl fl_X11_184 rfl (Or.inl rfl) ⟨by omega, by omega⟩ (hTA _ (by rw [k_a]; decide)) hok14 (fun hok204 => ?_)
      have hI206 := hI6.up (a := a) (k := 21) (z := 0) (by rw [k_a]; exact ⟨by omega, by omega⟩)
      have hF207 := hF7.up (a := a) (k := 21) (z := 0) (Or.inr (by rw [k_a]; decide))
      generalize eσ205 : sv_up σ5 a 21 0 = σ205 at hok204 hI206 hF207 ⊢
      have t208 : σ205 a 18 = n18 := by rw [← eσ205, sv_up_k (by decide)]; exact t8
      have t209 : σ205 a 20 = Yg1_fa_20 := by rw [← eσ205, sv_up_k (by decide)]; exact t9
      have t210 : σ205 a 19 = Yg1_fa_20 := by rw [← eσ205, sv_up_k (by decide)]; exact t10
      have t211 : σ205 a 21 = 0 := by rw [← eσ205]; exact sv_up_s _ _ _ _
      refine sv_goto C.1 C.2.1 (off := 194) (tgt := 279) (by decide +kernel) (by decide) ?_
      exact sv_vret C hr (by decide +kernel) hok204 (⟨rfl, hI206, hF207, _, _, _, t210, t209, t211, by omega, by omega, by omega, by omega⟩)
  have L214 : ∀ (n : Nat) (Xg212_fa_20 : Int) (σ213 : Nat → Nat → Int), (0 ≤ Xg212_fa_20 ∧ Xg212_fa_20 ≤ 4000) → (sv_ok ty σ213) → (sv_inv sp_1 ty σ213) → (sv_ofx [(10, 19), (10, 20), (10, 21), (10, 22)] [] ty σ σ213) → (σ213 a 18 = n18) → (σ213 a 20 = Xg212_fa_20) → (n20 ≤ Xg212_fa_20) → (Xg212_fa_20 ≤ n18) → (4000 - Xg212_fa_20) < (n : Int) → sv_E p l e { frames := 1, cells := 0, slots := 0, locals := 21 } s m args below meth c 2 g A ty (fun r σ' => (r = []) ∧ sv_inv sp_1 ty σ' ∧ sv_ofx [(10, 19), (10, 20), (10, 21), (10, 22)] [] ty σ σ' ∧ ∃ c1 c2 hc : Int, σ' a 19 = c1 ∧ σ' a 20 = c2 ∧ σ' a 21 = hc ∧ (n20 ≤ c1 ∧ c1 ≤ c2 ∧ c2 ≤ n18) ∧ (0 ≤ hc ∧ hc ≤ 4) ∧ (hc = 0 ∨ c1 < c2) ∧ (hc ≠ 1 ∨ c2 ≤ c1 + 12)) σ213 0 [(0, sv_r a)] [] := by
    intro n
    induction n with
    | zero => intro Xg212_fa_20 σ213 hXg212_fa_20 okσ213 Iσ213 Fσ213 eσ213_0 eσ213_1 hl0 hl1 hmu; exact absurd hmu (by omega)
    | succ n ih215 =>
      intro Xg212_fa_20 σ213 hXg212_fa_20 okσ213 Iσ213 Fσ213 eσ213_0 eσ213_1 hl0 hl1 hmu
      refine sv_go C.1 C.2.1 [(.aload_n 0, 1)] (pc' := 1) (by decide +kernel) rfl (lv' := [(0, sv_r a)]) (st' := [sv_r a]) rfl ?_
      refine sv_gf C (index := 178) (ci := 10) (k := 20) (r := (RX11, TX11, 47)) (v := sv_i Xg212_fa_20) (by decide +kernel) (by rw [k_a]; rfl) rfl (by decide) fl_X11_178 (congrArg sv_i eσ213_1) ?_
      refine sv_go C.1 C.2.1 [(.aload_n 0, 1)] (pc' := 5) (by decide +kernel) rfl (lv' := [(0, sv_r a)]) (st' := [sv_r a, sv_i Xg212_fa_20]) rfl ?_
      refine sv_gf C (index := 175) (ci := 10) (k := 18) (r := (RX11, TX11, 47)) (v := sv_i n18) (by decide +kernel) (by rw [k_a]; rfl) rfl (by decide) fl_X11_175 (congrArg sv_i eσ213_0) ?_
      refine sv_icmp C.1 C.2.1 (cnd := .ge) (off := 44) (tgt := 52) (by decide +kernel) (by decide) ⟨by omega, by omega⟩ ⟨by omega, by omega⟩ (fun (h216 : n18 ≤ Xg212_fa_20) => ?_) (fun (h216 : ¬ (n18 ≤ Xg212_fa_20)) => ?_)
      · exact J3 Xg212_fa_20 σ213 ⟨by omega, by omega⟩ okσ213 Iσ213 Fσ213 eσ213_0 eσ213_1 (by omega) (by omega)
      · refine sv_go C.1 C.2.1 [(.aload_n 0, 1)] (pc' := 12) (by decide +kernel) rfl (lv' := [(0, sv_r a)]) (st' := [sv_r a]) rfl ?_
        obtain ⟨v217, ev217, kv217⟩ := Iσ213.ref (k := 16) k_a rfl
        refine sv_gf C (index := 102) (ci := 10) (k := 16) (r := (RX11, TX11, 47)) (v := sv_r v217) (by decide +kernel) (by rw [k_a]; rfl) rfl (by decide) fl_X11_102 (congrArg sv_a ev217) ?_
        refine sv_go C.1 C.2.1 [(.aload_n 0, 1)] (pc' := 16) (by decide +kernel) rfl (lv' := [(0, sv_r a)]) (st' := [sv_r a, sv_r v217]) rfl ?_
        refine sv_gf C (index := 178) (ci := 10) (k := 20) (r := (RX11, TX11, 47)) (v := sv_i Xg212_fa_20) (by decide +kernel) (by rw [k_a]; rfl) rfl (by decide) fl_X11_178 (congrArg sv_i eσ213_1) ?_
        refine sv_ba C (n := 4000) (by decide +kernel) (by rw [kv217]; rfl) (by decide) (by omega) (by omega) ?_
        obtain ⟨v218, ev218, hv218⟩ := sv_rdeb okσ213 (a := v217) (k := (Xg212_fa_20 : Int).toNat) (n := 4000) (by rw [kv217]; rfl) (by omega)
        rw [ev218]
        refine sv_go C.1 C.2.1 [(.bipush 32, 2)] (pc' := 22) (by decide +kernel) rfl (lv' := [(0, sv_r a)]) (st' := [sv_i 32, sv_i v218]) rfl ?_
        refine sv_icmp C.1 C.2.1 (cnd := .eq) (off := 17) (tgt := 39) (by decide +kernel) (by decide) ⟨by omega, by omega⟩ ⟨by omega, by omega⟩ (fun (h219 : v218 = 32) => ?_) (fun (h219 : ¬ (v218 = 32)) => ?_)
        · refine sv_go C.1 C.2.1 [(.aload_n 0, 1), (.dup, 1)] (pc' := 41) (by decide +kernel) rfl (lv' := [(0, sv_r a)]) (st' := [sv_r a, sv_r a]) rfl ?_
          refine sv_gf C (index := 178) (ci := 10) (k := 20) (r := (RX11, TX11, 47)) (v := sv_i Xg212_fa_20) (by decide +kernel) (by rw [k_a]; rfl) rfl (by decide) fl_X11_178 (congrArg sv_i eσ213_1) ?_
          refine sv_go C.1 C.2.1 [(.iconst 1, 1), (.iadd, 1)] (pc' := 46) (by decide +kernel) rfl (lv' := [(0, sv_r a)]) (st' := [sv_i (Xg212_fa_20 + 1), sv_r a]) rfl ?_
          refine sv_pf C (index := 178) (ci := 10) (k := 20) (r := (RX11, TX11, 47)) (z := Xg212_fa_20 + 1) (by decide +kernel) (by rw [k_a]; rfl) rfl (by decide) rfl fl_X11_178 rfl (Or.inl rfl) ⟨by omega, by omega⟩ (hTA _ (by rw [k_a]; decide)) okσ213 (fun hok220 => ?_)
          have hI222 := Iσ213.up (a := a) (k := 20) (z := Xg212_fa_20 + 1) (by rw [k_a]; exact ⟨by omega, by omega⟩)
          have hF223 := Fσ213.up (a := a) (k := 20) (z := Xg212_fa_20 + 1) (Or.inr (by rw [k_a]; decide))
          generalize eσ221 : sv_up σ213 a 20 (Xg212_fa_20 + 1) = σ221 at hok220 hI222 hF223 ⊢
          have t224 : σ221 a 18 = n18 := by rw [← eσ221, sv_up_k (by decide)]; exact eσ213_0
          have t225 : σ221 a 16 = (v217 : Int) + 1 := by rw [← eσ221, sv_up_k (by decide)]; exact ev217
          have t226 : σ221 v217 (Xg212_fa_20 : Int).toNat = v218 := by rw [← eσ221, sv_up_a (sv_ne kv217 k_a (by decide))]; exact ev218
          have t227 : σ221 a 20 = Xg212_fa_20 + 1 := by rw [← eσ221]; exact sv_up_s _ _ _ _
          refine sv_goto C.1 C.2.1 (off := (-49)) (tgt := 0) (by decide +kernel) (by decide) ?_
          exact ih215 (Xg212_fa_20 + 1) σ221 ⟨by omega, by omega⟩ hok220 hI222 hF223 t224 t227 (by omega) (by omega) (by omega)
        · refine sv_go C.1 C.2.1 [(.aload_n 0, 1)] (pc' := 26) (by decide +kernel) rfl (lv' := [(0, sv_r a)]) (st' := [sv_r a]) rfl ?_
          refine sv_gf C (index := 102) (ci := 10) (k := 16) (r := (RX11, TX11, 47)) (v := sv_r v217) (by decide +kernel) (by rw [k_a]; rfl) rfl (by decide) fl_X11_102 (congrArg sv_a ev217) ?_
          refine sv_go C.1 C.2.1 [(.aload_n 0, 1)] (pc' := 30) (by decide +kernel) rfl (lv' := [(0, sv_r a)]) (st' := [sv_r a, sv_r v217]) rfl ?_
          refine sv_gf C (index := 178) (ci := 10) (k := 20) (r := (RX11, TX11, 47)) (v := sv_i Xg212_fa_20) (by decide +kernel) (by rw [k_a]; rfl) rfl (by decide) fl_X11_178 (congrArg sv_i eσ213_1) ?_
          refine sv_ba C (n := 4000) (by decide +kernel) (by rw [kv217]; rfl) (by decide) (by omega) (by omega) ?_
          rw [ev218]
          refine sv_go C.1 C.2.1 [(.bipush 10, 2)] (pc' := 36) (by decide +kernel) rfl (lv' := [(0, sv_r a)]) (st' := [sv_i 10, sv_i v218]) rfl ?_
          refine sv_icmp C.1 C.2.1 (cnd := .ne) (off := 16) (tgt := 52) (by decide +kernel) (by decide) ⟨by omega, by omega⟩ ⟨by omega, by omega⟩ (fun (h228 : v218 ≠ 10) => ?_) (fun (h228 : ¬ (v218 ≠ 10)) => ?_)
          · exact J3 Xg212_fa_20 σ213 ⟨by omega, by omega⟩ okσ213 Iσ213 Fσ213 eσ213_0 eσ213_1 (by omega) (by omega)
          · refine sv_go C.1 C.2.1 [(.aload_n 0, 1), (.dup, 1)] (pc' := 41) (by decide +kernel) rfl (lv' := [(0, sv_r a)]) (st' := [sv_r a, sv_r a]) rfl ?_
            refine sv_gf C (index := 178) (ci := 10) (k := 20) (r := (RX11, TX11, 47)) (v := sv_i Xg212_fa_20) (by decide +kernel) (by rw [k_a]; rfl) rfl (by decide) fl_X11_178 (congrArg sv_i eσ213_1) ?_
            refine sv_go C.1 C.2.1 [(.iconst 1, 1), (.iadd, 1)] (pc' := 46) (by decide +kernel) rfl (lv' := [(0, sv_r a)]) (st' := [sv_i (Xg212_fa_20 + 1), sv_r a]) rfl ?_
            refine sv_pf C (index := 178) (ci := 10) (k := 20) (r := (RX11, TX11, 47)) (z := Xg212_fa_20 + 1) (by decide +kernel) (by rw [k_a]; rfl) rfl (by decide) rfl fl_X11_178 rfl (Or.inl rfl) ⟨by omega, by omega⟩ (hTA _ (by rw [k_a]; decide)) okσ213 (fun hok229 => ?_)
            have hI231 := Iσ213.up (a := a) (k := 20) (z := Xg212_fa_20 + 1) (by rw [k_a]; exact ⟨by omega, by omega⟩)
            have hF232 := Fσ213.up (a := a) (k := 20) (z := Xg212_fa_20 + 1) (Or.inr (by rw [k_a]; decide))
            generalize eσ230 : sv_up σ213 a 20 (Xg212_fa_20 + 1) = σ230 at hok229 hI231 hF232 ⊢
            have t233 : σ230 a 18 = n18 := by rw [← eσ230, sv_up_k (by decide)]; exact eσ213_0
            have t234 : σ230 a 16 = (v217 : Int) + 1 := by rw [← eσ230, sv_up_k (by decide)]; exact ev217
            have t235 : σ230 v217 (Xg212_fa_20 : Int).toNat = v218 := by rw [← eσ230, sv_up_a (sv_ne kv217 k_a (by decide))]; exact ev218
            have t236 : σ230 a 20 = Xg212_fa_20 + 1 := by rw [← eσ230]; exact sv_up_s _ _ _ _
            refine sv_goto C.1 C.2.1 (off := (-49)) (tgt := 0) (by decide +kernel) (by decide) ?_
            exact ih215 (Xg212_fa_20 + 1) σ230 ⟨by omega, by omega⟩ hok229 hI231 hF232 t233 t236 (by omega) (by omega) (by omega)
  exact L214 (((4000 - n20 : Int)).toNat + 1) n20 σ ⟨by omega, by omega⟩ hok hI hF e18 e20 (by omega) (by omega) (by omega)
