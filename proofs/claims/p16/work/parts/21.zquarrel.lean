/-! quarrels, exactly -/
def fq_bit (v b : Int) : Int := (Int32.ofInt (Int32.ofInt v >>> (Int32.ofInt b &&& 31)).toInt &&& Int32.ofInt 1).toInt
theorem fq_one (v b : Int) : fq_bit v b = 0 ∨ fq_bit v b = 1 := by
  have := sv_andr (Int32.ofInt v >>> (Int32.ofInt b &&& 31)).toInt 1 (by decide) (by decide)
  unfold fq_bit
  omega
def fq_ok (a b : Int) : Prop := (0 ≤ a ∧ a ≤ 9) ∧ (0 ≤ b ∧ b ≤ 9) ∧ a ≠ b
def fq_xor (v b : Int) : Int := (Int32.ofInt v ^^^ Int32.ofInt (Int32.ofInt 1 <<< (Int32.ofInt b &&& 31)).toInt).toInt
/-- what setQuarrel does to the rows q of bits, and answers -/
def fq_set (σ σ' : Nat → Nat → Int) (q : Nat) (a b on rv : Int) : Prop := (rv = 0 ∧ fq_bit (σ q a.toNat) b = on ∧ ∀ j : Nat, σ' q j = σ q j) ∨ (rv = 1 ∧ fq_bit (σ q a.toNat) b ≠ on ∧ ∀ j : Nat, σ' q j = if j = b.toNat then fq_xor (σ q j) a else if j = a.toNat then fq_xor (σ q j) b else σ q j)
def fq_cls (σ σ' : Nat → Nat → Int) (q : Nat) (a b on rv : Int) : Prop := (fq_ok a b → fq_set σ σ' q a b on rv) ∧ (¬ fq_ok a b → rv = -2 ∧ ∀ j : Nat, σ' q j = σ q j)
/-- what the reference's quarrel does to its table q, and answers -/
def fq_ref (σ σ' : Nat → Nat → Int) (q : Nat) (a b on rv : Int) : Prop := (fq_ok a b → (rv = if σ q (10 * a + b).toNat = on then 0 else 1) ∧ ∀ j : Nat, σ' q j = if j = (10 * a + b).toNat ∨ j = (10 * b + a).toNat then on else σ q j) ∧ (¬ fq_ok a b → rv = -2 ∧ ∀ j : Nat, σ' q j = σ q j)
theorem zs_two (σ : Nat → Nat → Int) (q i1 i2 : Nat) (x : Int) (j : Nat) : sv_up (sv_up σ q i1 x) q i2 x q j = if j = i1 ∨ j = i2 then x else σ q j := by
  by_cases h2 : j = i2
  · subst h2; rw [sv_up_s, if_pos (Or.inr rfl)]
  · rw [sv_up_k h2]
    by_cases h1 : j = i1
    · subst h1; rw [sv_up_s, if_pos (Or.inl rfl)]
    · rw [sv_up_k h1, if_neg (fun h => h.elim h1 h2)]
theorem fq_up {σ σ1 σ2 σ3 : Nat → Nat → Int} {qa a k : Nat} {v w v1 v5 z : Int} (e1 : σ qa v.toNat = v1) (E1 : sv_up σ qa v.toNat (fq_xor v1 w) = σ1) (e5 : σ1 qa w.toNat = v5) (E2 : sv_up σ1 qa w.toNat (fq_xor v5 v) = σ2) (E3 : sv_up σ2 a k z = σ3) (hne : qa ≠ a) (hv : 0 ≤ v ∧ v ≤ 9) (hw : 0 ≤ w ∧ w ≤ 9) (h : v ≠ w) (j : Nat) : σ3 qa j = if j = w.toNat then fq_xor (σ qa j) v else if j = v.toNat then fq_xor (σ qa j) w else σ qa j := by
  rw [← E3, sv_up_a hne, ← E2]
  have hvw : w.toNat ≠ v.toNat := by omega
  have e5' : v5 = σ qa w.toNat := by rw [← e5, ← E1, sv_up_k hvw]
  by_cases h2 : j = w.toNat
  · subst h2; rw [sv_up_s, if_pos rfl, e5']
  · rw [sv_up_k h2, if_neg h2, ← E1]
    by_cases h1 : j = v.toNat
    · subst h1; rw [sv_up_s, if_pos rfl, e1]
    · rw [sv_up_k h1, if_neg h1]
set_option maxRecDepth 100000 in
theorem fq_k1 : ∀ n : Nat, n < 1024 → ∀ b : Nat, b < 10 → fq_xor (n : Int) (b : Int) = ((n ^^^ 2 ^ b : Nat) : Int) ∧ n ^^^ 2 ^ b < 1024 := by decide +kernel
set_option maxRecDepth 100000 in
theorem fq_k2 : ∀ n : Nat, n < 1024 → ∀ c : Nat, c < 10 → fq_bit (n : Int) (c : Int) = (((n >>> c) % 2 : Nat) : Int) := by decide +kernel
set_option maxRecDepth 100000 in
theorem fq_k3 : ∀ n : Nat, n < 1024 → ∀ b : Nat, b < 10 → ∀ c : Nat, c < 10 → ((n ^^^ 2 ^ b) >>> c) % 2 = if c = b then 1 - (n >>> b) % 2 else (n >>> c) % 2 := by decide +kernel
theorem fq_key {n : Int} (hn : 0 ≤ n ∧ n ≤ 1023) {b c : Nat} (hb : b < 10) (hc : c < 10) : (0 ≤ fq_xor n (b : Int) ∧ fq_xor n (b : Int) ≤ 1023) ∧ fq_bit (fq_xor n (b : Int)) (c : Int) = if c = b then 1 - fq_bit n (b : Int) else fq_bit n (c : Int) := by
  obtain ⟨m, rfl⟩ : ∃ m : Nat, n = (m : Int) := ⟨n.toNat, by omega⟩
  have hm : m < 1024 := by omega
  obtain ⟨h1, h2⟩ := fq_k1 m hm b hb
  rw [h1]
  refine ⟨⟨by omega, by omega⟩, ?_⟩
  rw [fq_k2 _ h2 c hc, fq_k3 m hm b hb c hc, fq_k2 m hm b hb, fq_k2 m hm c hc]
  split
  · have : (m >>> b) % 2 < 2 := Nat.mod_lt _ (by decide)
    omega
  · rfl
theorem fq_bits {σ σ1 σ2 : Nat → Nat → Int} {qa qm : Nat} {a b on v1 v2 : Int} (hon : 0 ≤ on ∧ on ≤ 1) (g1 : ∀ i : Nat, i < 10 → 0 ≤ σ qa i ∧ σ qa i ≤ 1023) (g2 : ∀ i j : Nat, i < 10 → j < 10 → i ≠ j → fq_bit (σ qa i) (j : Int) = σ qm (10 * i + j) ∧ σ qm (10 * i + j) = σ qm (10 * j + i)) (hs : ∀ j, σ1 qm j = σ qm j) (h1 : fq_cls σ σ1 qa a b on v1) (h2 : fq_ref σ1 σ2 qm a b on v2) :
    v1 = v2 ∧ (∀ i : Nat, i < 10 → 0 ≤ σ1 qa i ∧ σ1 qa i ≤ 1023) ∧ ∀ i j : Nat, i < 10 → j < 10 → i ≠ j → fq_bit (σ1 qa i) (j : Int) = σ2 qm (10 * i + j) ∧ σ2 qm (10 * i + j) = σ2 qm (10 * j + i) := by
  by_cases ho : fq_ok a b
  · obtain ⟨p3, p4⟩ := h2.1 ho
    have p0 := h1.1 ho
    unfold fq_ok at ho
    obtain ⟨A, hA⟩ : ∃ A : Nat, a = (A : Int) := ⟨a.toNat, by omega⟩
    obtain ⟨B, hB⟩ : ∃ B : Nat, b = (B : Int) := ⟨b.toNat, by omega⟩
    subst hA; subst hB
    have hA : A < 10 := by omega
    have hB : B < 10 := by omega
    have hAB : A ≠ B := by omega
    rw [show (10 * (A : Int) + (B : Int)).toNat = 10 * A + B by omega, hs] at p3
    have p4' : ∀ j : Nat, σ2 qm j = if j = 10 * A + B ∨ j = 10 * B + A then on else σ qm j := fun j => by
      rw [p4 j, hs, show (10 * (A : Int) + (B : Int)).toNat = 10 * A + B by omega, show (10 * (B : Int) + (A : Int)).toNat = 10 * B + A by omega]
    obtain ⟨b1, b2⟩ := g2 A B hA hB hAB
    obtain ⟨b3, b4⟩ := g2 B A hB hA (Ne.symm hAB)
    have o1 := fq_one (σ qa A) (B : Int)
    have sym : ∀ i j : Nat, i < 10 → j < 10 → i ≠ j → σ2 qm (10 * i + j) = σ2 qm (10 * j + i) := fun i j hi hj hn => by
      have h5 := (g2 i j hi hj hn).2
      rw [p4', p4']
      by_cases c1 : i = A ∧ j = B
      · rw [if_pos (by omega), if_pos (by omega)]
      · by_cases c2 : i = B ∧ j = A
        · rw [if_pos (by omega), if_pos (by omega)]
        · rw [if_neg (by omega), if_neg (by omega)]; exact h5
    simp only [fq_set, Int.toNat_natCast] at p0
    rcases p0 with ⟨q1, q2, q3⟩ | ⟨q1, q2, q3⟩
    · refine ⟨by rw [q1, p3, if_pos (by omega)], fun i hi => by rw [q3]; exact g1 i hi, fun i j hi hj hn => ⟨?_, sym i j hi hj hn⟩⟩
      rw [q3, p4']
      have h5 := (g2 i j hi hj hn).1
      by_cases c1 : i = A ∧ j = B
      · rw [if_pos (by omega), c1.1, c1.2]; exact q2
      · by_cases c2 : i = B ∧ j = A
        · rw [if_pos (by omega), c2.1, c2.2]; omega
        · rw [if_neg (by omega)]; exact h5
    · refine ⟨by rw [q1, p3, if_neg (by omega)], fun i hi => ?_, fun i j hi hj hn => ⟨?_, sym i j hi hj hn⟩⟩
      · rw [q3]
        by_cases d1 : i = B
        · rw [if_pos d1]; exact (fq_key (g1 i hi) hA hA).1
        · rw [if_neg d1]
          by_cases d2 : i = A
          · rw [if_pos d2]; exact (fq_key (g1 i hi) hB hB).1
          · rw [if_neg d2]; exact g1 i hi
      · have h5 := (g2 i j hi hj hn).1
        rw [q3, p4']
        by_cases d1 : i = B
        · rw [if_pos d1, (fq_key (g1 i hi) hA hj).2]
          by_cases c2 : j = A
          · rw [if_pos c2, if_pos (by omega), d1]; omega
          · rw [if_neg c2, if_neg (by omega)]; exact h5
        · rw [if_neg d1]
          by_cases d2 : i = A
          · rw [if_pos d2, (fq_key (g1 i hi) hB hj).2]
            by_cases c2 : j = B
            · rw [if_pos c2, if_pos (by omega), d2]; omega
            · rw [if_neg c2, if_neg (by omega)]; exact h5
          · rw [if_neg d2, if_neg (by omega)]; exact h5
  · obtain ⟨p1, p2⟩ := h1.2 ho
    obtain ⟨p3, p4⟩ := h2.2 ho
    exact ⟨by rw [p1, p3], fun i hi => by rw [p2]; exact g1 i hi, fun i j hi hj hn => by rw [p2, p4, p4, hs, hs]; exact g2 i j hi hj hn⟩

set_option maxHeartbeats 4000000 in
set_option maxRecDepth 100000 in
theorem sf2_X9_isBrotherhood (l : Launch) (g : sv_G) (A : Nat → Prop) (ty : Nat → Nat) (σ : Nat → Nat → Int) (hok : sv_ok ty σ) (hTA : ∀ q, ty q ≠ 0 → A q) (hI : sv_inv sp_1 ty σ) (v : Int) (h_v : (-2147483648) ≤ v ∧ v ≤ 2147483647) : sv_M l yX9_isBrotherhood cX9_isBrotherhood 1 (some .boolean) { frames := 0, cells := 0, slots := 0, locals := 0 } g A ty σ [sv_i v] (fun r σ' => σ = σ' ∧ ∃ rv : Int, r = [sv_i rv] ∧ (0 ≤ rv ∧ rv ≤ 1) ∧ (1 ≤ rv → rv ≤ 1 → 0 ≤ v ∧ v ≤ 9) ∧ (0 ≤ rv → rv ≤ 0 → ¬ (0 ≤ v ∧ v ≤ 9))) := by
  refine sv_enter (by decide) (Nat.le_of_ble_eq_true rfl) ?_
  intro p e s m args below meth c C hr
  have C : sv_C g A RX9 cX9_isBrotherhood 1 p s m args meth c := C
  have hr : meth.sig.returnType = (some .boolean) := hr
  have hF : sv_ofx [] [] ty σ σ := sv_ofx.rf
  refine sv_same (st2 := []) (lv2 := [(0, sv_i v)]) rfl rfl ?_
  refine sv_go C.1 C.2.1 [(.iload_n 0, 1)] (pc' := 1) (by decide +kernel) rfl (lv' := [(0, sv_i v)]) (st' := [sv_i v]) rfl ?_
  refine sv_if C.1 C.2.1 (cnd := .lt) (off := 13) (tgt := 14) (by decide +kernel) (by decide) ⟨by omega, by omega⟩ (fun (h1 : v < 0) => ?_) (fun (h1 : ¬ (v < 0)) => ?_)
  · refine sv_go C.1 C.2.1 [(.iconst 0, 1)] (pc' := 15) (by decide +kernel) rfl (lv' := [(0, sv_i v)]) (st' := [sv_i 0]) rfl ?_
    exact sv_zret C hr (by omega) (by decide +kernel) hok (⟨rfl, ⟨_, rfl, ⟨by omega, by omega⟩, fun _ _ => (by omega), fun _ _ => (by omega)⟩⟩)
  · refine sv_go C.1 C.2.1 [(.iload_n 0, 1), (.bipush 10, 2)] (pc' := 7) (by decide +kernel) rfl (lv' := [(0, sv_i v)]) (st' := [sv_i 10, sv_i v]) rfl ?_
    refine sv_icmp C.1 C.2.1 (cnd := .ge) (off := 7) (tgt := 14) (by decide +kernel) (by decide) ⟨by omega, by omega⟩ ⟨by omega, by omega⟩ (fun (h2 : 10 ≤ v) => ?_) (fun (h2 : ¬ (10 ≤ v)) => ?_)
    · refine sv_go C.1 C.2.1 [(.iconst 0, 1)] (pc' := 15) (by decide +kernel) rfl (lv' := [(0, sv_i v)]) (st' := [sv_i 0]) rfl ?_
      exact sv_zret C hr (by omega) (by decide +kernel) hok (⟨rfl, ⟨_, rfl, ⟨by omega, by omega⟩, fun _ _ => (by omega), fun _ _ => (by omega)⟩⟩)
    · refine sv_go C.1 C.2.1 [(.iconst 1, 1)] (pc' := 11) (by decide +kernel) rfl (lv' := [(0, sv_i v)]) (st' := [sv_i 1]) rfl ?_
      refine sv_goto C.1 C.2.1 (off := 4) (tgt := 15) (by decide +kernel) (by decide) ?_
      exact sv_zret C hr (by omega) (by decide +kernel) hok (⟨rfl, ⟨_, rfl, ⟨by omega, by omega⟩, fun _ _ => (by omega), fun _ _ => (by omega)⟩⟩)

set_option maxHeartbeats 4000000 in
set_option maxRecDepth 100000 in
theorem sf2_X11_isBrotherhood (l : Launch) (g : sv_G) (A : Nat → Prop) (ty : Nat → Nat) (σ : Nat → Nat → Int) (hok : sv_ok ty σ) (hTA : ∀ q, ty q ≠ 0 → A q) (hI : sv_inv sp_1 ty σ) (v : Int) (h_v : (-2147483648) ≤ v ∧ v ≤ 2147483647) : sv_M l yX11_isBrotherhood cX11_isBrotherhood 1 (some .boolean) { frames := 1, cells := 0, slots := 0, locals := 25 } g A ty σ [sv_i v] (fun r σ' => σ = σ' ∧ ∃ rv : Int, r = [sv_i rv] ∧ (0 ≤ rv ∧ rv ≤ 1) ∧ (1 ≤ rv → rv ≤ 1 → 0 ≤ v ∧ v ≤ 9) ∧ (0 ≤ rv → rv ≤ 0 → ¬ (0 ≤ v ∧ v ≤ 9))) := by
  refine sv_enter (by decide) (Nat.le_of_ble_eq_true rfl) ?_
  intro p e s m args below meth c C hr
  have C : sv_C g A RX11 cX11_isBrotherhood 1 p s m args meth c := C
  have hr : meth.sig.returnType = (some .boolean) := hr
  have hF : sv_ofx [] [] ty σ σ := sv_ofx.rf
  refine sv_same (st2 := []) (lv2 := [(0, sv_i v)]) rfl rfl ?_
  refine sv_go C.1 C.2.1 [(.iload_n 0, 1)] (pc' := 1) (by decide +kernel) rfl (lv' := [(0, sv_i v)]) (st' := [sv_i v]) rfl ?_
  refine sv_i2l C.1 C.2.1 (by decide +kernel) ⟨by omega, by omega⟩ ?_
  refine sv_go C.1 C.2.1 [(.lconst 0, 1)] (pc' := 3) (by decide +kernel) rfl (lv' := [(0, sv_i v)]) (st' := [sv_l 0, sv_l v]) rfl ?_
  refine sv_ldc2 C (index := 292) (z := 9) (by decide +kernel) cl_X11_292 (by decide) ?_
  refine sv_cs C (index := 9) (k := 3) (rest := []) (by decide +kernel) (ct_X11_in l g A ty σ hok (v) ⟨by omega, by omega⟩ (0) ⟨by omega, by omega⟩ (9) ⟨by omega, by omega⟩) ⟨co_X11_in, in_X11, ⟨by decide, by decide, by decide +kernel⟩, Nat.le_of_ble_eq_true rfl, Nat.le_of_ble_eq_true rfl⟩ ml_X11_9 st_X11_in rfl rfl (Nat.le_of_ble_eq_true rfl) ⟨Nat.zero_le _, Nat.zero_le _⟩ (fun r2 σ3 hpo1 hok4 => ?_)
  obtain ⟨rfl, ⟨h5, rfl⟩ | ⟨h5, rfl⟩⟩ := hpo1
  · refine sv_same (st2 := [sv_i 1]) (lv2 := [(0, sv_i v)]) rfl rfl ?_
    exact sv_zret C hr (by omega) (by decide +kernel) hok4 (⟨rfl, ⟨_, rfl, ⟨by omega, by omega⟩, fun _ _ => (by omega), fun _ _ => (by omega)⟩⟩)
  · refine sv_same (st2 := [sv_i 0]) (lv2 := [(0, sv_i v)]) rfl rfl ?_
    exact sv_zret C hr (by omega) (by decide +kernel) hok4 (⟨rfl, ⟨_, rfl, ⟨by omega, by omega⟩, fun _ _ => (by omega), fun _ _ => (by omega)⟩⟩)

set_option maxHeartbeats 4000000 in
set_option maxRecDepth 100000 in
theorem ct_X0_setQuarrel (l : Launch) (g : sv_G) (A : Nat → Prop) (ty : Nat → Nat) (σ : Nat → Nat → Int) (hok : sv_ok ty σ) (hTA : ∀ q, ty q ≠ 0 → A q) (hI : sv_inv sp_1 ty σ) (a : Nat) (k_a : ty a = 5) (v : Int) (h_v : 0 ≤ v ∧ v ≤ 9) (w : Int) (h_w : 0 ≤ w ∧ w ≤ 9) (on : Int) (h_on : 0 ≤ on ∧ on ≤ 1) (qa : Nat) (k_qa : ty qa = 31) (eq : σ a 3 = (qa : Int) + 1) (hvw : v ≠ w) : sv_M l yX0_setQuarrel cX0_setQuarrel 5 (some .boolean) { frames := 0, cells := 0, slots := 0, locals := 0 } g A ty σ [sv_r a, sv_i v, sv_i w, sv_i on] (fun r σ' => (∃ rv : Int, r = [sv_i rv] ∧ (0 ≤ rv ∧ rv ≤ 1) ∧ ((-2147483648) ≤ rv → rv ≤ 2147483647 → fq_set σ σ' qa v w on rv)) ∧ sv_inv sp_1 ty σ' ∧ sv_ofx [(5, 1)] [31] ty σ σ') := by
  refine sv_enter (by decide) (Nat.le_of_ble_eq_true rfl) ?_
  intro p e s m args below meth c C hr
  have C : sv_C g A RX0 cX0_setQuarrel 5 p s m args meth c := C
  have hr : meth.sig.returnType = (some .boolean) := hr
  have hF : sv_ofx [(5, 1)] [31] ty σ σ := sv_ofx.rf
  refine sv_same (st2 := []) (lv2 := [(0, sv_r a), (1, sv_i v), (2, sv_i w), (3, sv_i on)]) rfl rfl ?_
  refine sv_go C.1 C.2.1 [(.aload_n 0, 1)] (pc' := 1) (by decide +kernel) rfl (lv' := [(0, sv_r a), (1, sv_i v), (2, sv_i w), (3, sv_i on)]) (st' := [sv_r a]) rfl ?_
  refine sv_gf C (index := 15) (ci := 0) (k := 3) (r := (RX0, TX0, 12)) (v := sv_r qa) (by decide +kernel) (by rw [k_a]; rfl) rfl (by decide) fl_X0_15 (congrArg sv_a eq) ?_
  refine sv_go C.1 C.2.1 [(.iload_n 1, 1)] (pc' := 5) (by decide +kernel) rfl (lv' := [(0, sv_r a), (1, sv_i v), (2, sv_i w), (3, sv_i on)]) (st' := [sv_i v, sv_r qa]) rfl ?_
  refine sv_ia C (n := 10) (by decide +kernel) (by rw [k_qa]; rfl) (by decide) (by omega) (by omega) ?_
  obtain ⟨v1, ev1, hv1⟩ := sv_rde hok (a := qa) (k := (v : Int).toNat) (n := 10) (by rw [k_qa]; rfl) (by omega)
  rw [ev1]
  refine sv_go C.1 C.2.1 [(.iload_n 2, 1), (.ishr, 1), (.iconst 1, 1), (.iand, 1)] (pc' := 10) (by decide +kernel) rfl (lv' := [(0, sv_r a), (1, sv_i v), (2, sv_i w), (3, sv_i on)]) (st' := [sv_i ((Int32.ofInt ((Int32.ofInt v1 >>> (Int32.ofInt w &&& 31)).toInt) &&& Int32.ofInt 1).toInt)]) rfl ?_
  have hb2 : (-2147483648) ≤ (Int32.ofInt v1 >>> (Int32.ofInt w &&& 31)).toInt ∧ (Int32.ofInt v1 >>> (Int32.ofInt w &&& 31)).toInt ≤ 2147483647 := sv_ioin2 (Int32.ofInt v1 >>> (Int32.ofInt w &&& 31))
  have hb3 : 0 ≤ (Int32.ofInt ((Int32.ofInt v1 >>> (Int32.ofInt w &&& 31)).toInt) &&& Int32.ofInt 1).toInt ∧ (Int32.ofInt ((Int32.ofInt v1 >>> (Int32.ofInt w &&& 31)).toInt) &&& Int32.ofInt 1).toInt ≤ 1 := sv_andr ((Int32.ofInt v1 >>> (Int32.ofInt w &&& 31)).toInt) 1 (by decide) (by decide)
  refine sv_if C.1 C.2.1 (cnd := .eq) (off := 7) (tgt := 17) (by decide +kernel) (by decide) ⟨by omega, by omega⟩ (fun (h4 : ((Int32.ofInt ((Int32.ofInt v1 >>> (Int32.ofInt w &&& 31)).toInt) &&& Int32.ofInt 1).toInt) = 0) => ?_) (fun (h4 : ¬ (((Int32.ofInt ((Int32.ofInt v1 >>> (Int32.ofInt w &&& 31)).toInt) &&& Int32.ofInt 1).toInt) = 0)) => ?_)
  · refine sv_go C.1 C.2.1 [(.iconst 0, 1), (.istore 4, 2), (.iload 4, 2), (.iload_n 3, 1)] (pc' := 23) (by decide +kernel) rfl (lv' := [(0, sv_r a), (1, sv_i v), (2, sv_i w), (3, sv_i on), (4, sv_i 0)]) (st' := [sv_i on, sv_i 0]) rfl ?_
    refine sv_icmp C.1 C.2.1 (cnd := .ne) (off := 5) (tgt := 28) (by decide +kernel) (by decide) ⟨by omega, by omega⟩ ⟨by omega, by omega⟩ (fun (h5 : 0 ≠ on) => ?_) (fun (h5 : ¬ (0 ≠ on)) => ?_)
    · refine sv_go C.1 C.2.1 [(.aload_n 0, 1)] (pc' := 29) (by decide +kernel) rfl (lv' := [(0, sv_r a), (1, sv_i v), (2, sv_i w), (3, sv_i on), (4, sv_i 0)]) (st' := [sv_r a]) rfl ?_
      refine sv_gf C (index := 15) (ci := 0) (k := 3) (r := (RX0, TX0, 12)) (v := sv_r qa) (by decide +kernel) (by rw [k_a]; rfl) rfl (by decide) fl_X0_15 (congrArg sv_a eq) ?_
      refine sv_go C.1 C.2.1 [(.iload_n 1, 1), (.dup2, 1)] (pc' := 34) (by decide +kernel) rfl (lv' := [(0, sv_r a), (1, sv_i v), (2, sv_i w), (3, sv_i on), (4, sv_i 0)]) (st' := [sv_i v, sv_r qa, sv_i v, sv_r qa]) rfl ?_
      refine sv_ia C (n := 10) (by decide +kernel) (by rw [k_qa]; rfl) (by decide) (by omega) (by omega) ?_
      rw [ev1]
      refine sv_go C.1 C.2.1 [(.iconst 1, 1), (.iload_n 2, 1), (.ishl, 1), (.ixor, 1)] (pc' := 39) (by decide +kernel) rfl (lv' := [(0, sv_r a), (1, sv_i v), (2, sv_i w), (3, sv_i on), (4, sv_i 0)]) (st' := [sv_i ((Int32.ofInt v1 ^^^ Int32.ofInt ((Int32.ofInt 1 <<< (Int32.ofInt w &&& 31)).toInt)).toInt), sv_i v, sv_r qa]) rfl ?_
      have hb6 : (-2147483648) ≤ (Int32.ofInt 1 <<< (Int32.ofInt w &&& 31)).toInt ∧ (Int32.ofInt 1 <<< (Int32.ofInt w &&& 31)).toInt ≤ 2147483647 := sv_ioin2 (Int32.ofInt 1 <<< (Int32.ofInt w &&& 31))
      have hb7 : (-2147483648) ≤ (Int32.ofInt v1 ^^^ Int32.ofInt ((Int32.ofInt 1 <<< (Int32.ofInt w &&& 31)).toInt)).toInt ∧ (Int32.ofInt v1 ^^^ Int32.ofInt ((Int32.ofInt 1 <<< (Int32.ofInt w &&& 31)).toInt)).toInt ≤ 2147483647 := sv_ioin2 (Int32.ofInt v1 ^^^ Int32.ofInt ((Int32.ofInt 1 <<< (Int32.ofInt w &&& 31)).toInt))
      refine sv_is C (n := 10) (by decide +kernel) (by rw [k_qa]; rfl) (by decide) (by omega) (by omega) ⟨by omega, by omega⟩ (hTA _ (by rw [k_qa]; decide)) hok (fun hok8 => ?_)
      have hI10 := hI.up (a := qa) (k := (v : Int).toNat) (z := (Int32.ofInt v1 ^^^ Int32.ofInt ((Int32.ofInt 1 <<< (Int32.ofInt w &&& 31)).toInt)).toInt) (by rw [k_qa]; exact trivial)
      have hF11 := hF.up (a := qa) (k := (v : Int).toNat) (z := (Int32.ofInt v1 ^^^ Int32.ofInt ((Int32.ofInt 1 <<< (Int32.ofInt w &&& 31)).toInt)).toInt) (Or.inl (by rw [k_qa]; decide))
      generalize eσ9 : sv_up σ qa (v : Int).toNat ((Int32.ofInt v1 ^^^ Int32.ofInt ((Int32.ofInt 1 <<< (Int32.ofInt w &&& 31)).toInt)).toInt) = σ9 at hok8 hI10 hF11 ⊢
      have t12 : σ9 a 3 = (qa : Int) + 1 := by rw [← eσ9, sv_up_a (sv_ne k_a k_qa (by decide))]; exact eq
      have t14 : σ9 qa (v : Int).toNat = (Int32.ofInt v1 ^^^ Int32.ofInt ((Int32.ofInt 1 <<< (Int32.ofInt w &&& 31)).toInt)).toInt := by rw [← eσ9]; exact sv_up_s _ _ _ _
      refine sv_go C.1 C.2.1 [(.aload_n 0, 1)] (pc' := 41) (by decide +kernel) rfl (lv' := [(0, sv_r a), (1, sv_i v), (2, sv_i w), (3, sv_i on), (4, sv_i 0)]) (st' := [sv_r a]) rfl ?_
      refine sv_gf C (index := 15) (ci := 0) (k := 3) (r := (RX0, TX0, 12)) (v := sv_r qa) (by decide +kernel) (by rw [k_a]; rfl) rfl (by decide) fl_X0_15 (congrArg sv_a t12) ?_
      refine sv_go C.1 C.2.1 [(.iload_n 2, 1), (.dup2, 1)] (pc' := 46) (by decide +kernel) rfl (lv' := [(0, sv_r a), (1, sv_i v), (2, sv_i w), (3, sv_i on), (4, sv_i 0)]) (st' := [sv_i w, sv_r qa, sv_i w, sv_r qa]) rfl ?_
      refine sv_ia C (n := 10) (by decide +kernel) (by rw [k_qa]; rfl) (by decide) (by omega) (by omega) ?_
      obtain ⟨v15, ev15, hv15⟩ := sv_rde hok8 (a := qa) (k := (w : Int).toNat) (n := 10) (by rw [k_qa]; rfl) (by omega)
      rw [ev15]
      refine sv_go C.1 C.2.1 [(.iconst 1, 1), (.iload_n 1, 1), (.ishl, 1), (.ixor, 1)] (pc' := 51) (by decide +kernel) rfl (lv' := [(0, sv_r a), (1, sv_i v), (2, sv_i w), (3, sv_i on), (4, sv_i 0)]) (st' := [sv_i ((Int32.ofInt v15 ^^^ Int32.ofInt ((Int32.ofInt 1 <<< (Int32.ofInt v &&& 31)).toInt)).toInt), sv_i w, sv_r qa]) rfl ?_
      have hb16 : (-2147483648) ≤ (Int32.ofInt 1 <<< (Int32.ofInt v &&& 31)).toInt ∧ (Int32.ofInt 1 <<< (Int32.ofInt v &&& 31)).toInt ≤ 2147483647 := sv_ioin2 (Int32.ofInt 1 <<< (Int32.ofInt v &&& 31))
      have hb17 : (-2147483648) ≤ (Int32.ofInt v15 ^^^ Int32.ofInt ((Int32.ofInt 1 <<< (Int32.ofInt v &&& 31)).toInt)).toInt ∧ (Int32.ofInt v15 ^^^ Int32.ofInt ((Int32.ofInt 1 <<< (Int32.ofInt v &&& 31)).toInt)).toInt ≤ 2147483647 := sv_ioin2 (Int32.ofInt v15 ^^^ Int32.ofInt ((Int32.ofInt 1 <<< (Int32.ofInt v &&& 31)).toInt))
      refine sv_is C (n := 10) (by decide +kernel) (by rw [k_qa]; rfl) (by decide) (by omega) (by omega) ⟨by omega, by omega⟩ (hTA _ (by rw [k_qa]; decide)) hok8 (fun hok18 => ?_)
      have hI20 := hI10.up (a := qa) (k := (w : Int).toNat) (z := (Int32.ofInt v15 ^^^ Int32.ofInt ((Int32.ofInt 1 <<< (Int32.ofInt v &&& 31)).toInt)).toInt) (by rw [k_qa]; exact trivial)
      have hF21 := hF11.up (a := qa) (k := (w : Int).toNat) (z := (Int32.ofInt v15 ^^^ Int32.ofInt ((Int32.ofInt 1 <<< (Int32.ofInt v &&& 31)).toInt)).toInt) (Or.inl (by rw [k_qa]; decide))
      generalize eσ19 : sv_up σ9 qa (w : Int).toNat ((Int32.ofInt v15 ^^^ Int32.ofInt ((Int32.ofInt 1 <<< (Int32.ofInt v &&& 31)).toInt)).toInt) = σ19 at hok18 hI20 hF21 ⊢
      have t22 : σ19 a 3 = (qa : Int) + 1 := by rw [← eσ19, sv_up_a (sv_ne k_a k_qa (by decide))]; exact t12
      have t25 : σ19 qa (w : Int).toNat = (Int32.ofInt v15 ^^^ Int32.ofInt ((Int32.ofInt 1 <<< (Int32.ofInt v &&& 31)).toInt)).toInt := by rw [← eσ19]; exact sv_up_s _ _ _ _
      refine sv_go C.1 C.2.1 [(.aload_n 0, 1), (.dup, 1)] (pc' := 54) (by decide +kernel) rfl (lv' := [(0, sv_r a), (1, sv_i v), (2, sv_i w), (3, sv_i on), (4, sv_i 0)]) (st' := [sv_r a, sv_r a]) rfl ?_
      obtain ⟨v26, ev26, hv26⟩ := sv_rdk hok18 (a := a) (k := 1) (ci := 0) (r := (RX0, TX0, 12)) (by rw [k_a]; rfl) rfl (by decide) rfl
      refine sv_gf C (index := 33) (ci := 0) (k := 1) (r := (RX0, TX0, 12)) (v := sv_i v26) (by decide +kernel) (by rw [k_a]; rfl) rfl (by decide) fl_X0_33 (congrArg sv_i ev26) ?_
      refine sv_go C.1 C.2.1 [(.iload_n 3, 1)] (pc' := 58) (by decide +kernel) rfl (lv' := [(0, sv_r a), (1, sv_i v), (2, sv_i w), (3, sv_i on), (4, sv_i 0)]) (st' := [sv_i on, sv_i v26, sv_r a]) rfl ?_
      refine sv_if_f C.1 C.2.1 (cnd := .eq) (off := 7) (tgt := 65) (by decide +kernel) (by decide) ⟨by omega, by omega⟩ (show ¬ (on = 0) by omega) ?_
      refine sv_go C.1 C.2.1 [(.iconst 1, 1)] (pc' := 62) (by decide +kernel) rfl (lv' := [(0, sv_r a), (1, sv_i v), (2, sv_i w), (3, sv_i on), (4, sv_i 0)]) (st' := [sv_i 1, sv_i v26, sv_r a]) rfl ?_
      refine sv_goto C.1 C.2.1 (off := 4) (tgt := 66) (by decide +kernel) (by decide) ?_
      refine sv_go C.1 C.2.1 [(.iadd, 1)] (pc' := 67) (by decide +kernel) rfl (lv' := [(0, sv_r a), (1, sv_i v), (2, sv_i w), (3, sv_i on), (4, sv_i 0)]) (st' := [sv_i (v26 + 1), sv_r a]) rfl ?_
      obtain ⟨w27, hw27, ew27⟩ := sv_wr (v26 + 1)
      refine sv_sameD (st2 := [sv_i w27, sv_r a]) (lv2 := [(0, sv_r a), (1, sv_i v), (2, sv_i w), (3, sv_i on), (4, sv_i 0)]) (by simp only [List.map_cons, List.map_nil, sv_den_i, ew27]) rfl ?_
      refine sv_pf C (index := 33) (ci := 0) (k := 1) (r := (RX0, TX0, 12)) (z := w27) (by decide +kernel) (by rw [k_a]; rfl) rfl (by decide) rfl fl_X0_33 rfl (Or.inl rfl) ⟨by omega, by omega⟩ (hTA _ (by rw [k_a]; decide)) hok18 (fun hok28 => ?_)
      have hI30 := hI20.up (a := a) (k := 1) (z := w27) (by rw [k_a]; exact trivial)
      have hF31 := hF21.up (a := a) (k := 1) (z := w27) (Or.inr (by rw [k_a]; decide))
      generalize eσ29 : sv_up σ19 a 1 w27 = σ29 at hok28 hI30 hF31 ⊢
      have t32 : σ29 a 3 = (qa : Int) + 1 := by rw [← eσ29, sv_up_k (by decide)]; exact t22
      have t33 : σ29 qa (w : Int).toNat = (Int32.ofInt v15 ^^^ Int32.ofInt ((Int32.ofInt 1 <<< (Int32.ofInt v &&& 31)).toInt)).toInt := by rw [← eσ29, sv_up_a (sv_ne k_qa k_a (by decide))]; exact t25
      have t34 : σ29 a 1 = w27 := by rw [← eσ29]; exact sv_up_s _ _ _ _
      refine sv_go C.1 C.2.1 [(.iconst 1, 1)] (pc' := 71) (by decide +kernel) rfl (lv' := [(0, sv_r a), (1, sv_i v), (2, sv_i w), (3, sv_i on), (4, sv_i 0)]) (st' := [sv_i 1]) rfl ?_
      exact sv_zret C hr (by omega) (by decide +kernel) hok28 (⟨⟨_, rfl, ⟨by omega, by omega⟩, fun _ _ => (by right; exact ⟨rfl, by rw [ev1]; unfold fq_bit; omega, fq_up ev1 eσ9 ev15 eσ19 eσ29 (sv_ne k_qa k_a (by decide)) h_v h_w hvw⟩)⟩, hI30, hF31⟩)
    · refine sv_go C.1 C.2.1 [(.iconst 0, 1)] (pc' := 27) (by decide +kernel) rfl (lv' := [(0, sv_r a), (1, sv_i v), (2, sv_i w), (3, sv_i on), (4, sv_i 0)]) (st' := [sv_i 0]) rfl ?_
      exact sv_zret C hr (by omega) (by decide +kernel) hok (⟨⟨_, rfl, ⟨by omega, by omega⟩, fun _ _ => (by left; exact ⟨rfl, by rw [ev1]; unfold fq_bit; omega, fun j => rfl⟩)⟩, hI, hF⟩)
  · refine sv_go C.1 C.2.1 [(.iconst 1, 1)] (pc' := 14) (by decide +kernel) rfl (lv' := [(0, sv_r a), (1, sv_i v), (2, sv_i w), (3, sv_i on)]) (st' := [sv_i 1]) rfl ?_
    refine sv_goto C.1 C.2.1 (off := 4) (tgt := 18) (by decide +kernel) (by decide) ?_
    refine sv_go C.1 C.2.1 [(.istore 4, 2), (.iload 4, 2), (.iload_n 3, 1)] (pc' := 23) (by decide +kernel) rfl (lv' := [(0, sv_r a), (1, sv_i v), (2, sv_i w), (3, sv_i on), (4, sv_i 1)]) (st' := [sv_i on, sv_i 1]) rfl ?_
    refine sv_icmp C.1 C.2.1 (cnd := .ne) (off := 5) (tgt := 28) (by decide +kernel) (by decide) ⟨by omega, by omega⟩ ⟨by omega, by omega⟩ (fun (h35 : 1 ≠ on) => ?_) (fun (h35 : ¬ (1 ≠ on)) => ?_)
    · refine sv_go C.1 C.2.1 [(.aload_n 0, 1)] (pc' := 29) (by decide +kernel) rfl (lv' := [(0, sv_r a), (1, sv_i v), (2, sv_i w), (3, sv_i on), (4, sv_i 1)]) (st' := [sv_r a]) rfl ?_
      refine sv_gf C (index := 15) (ci := 0) (k := 3) (r := (RX0, TX0, 12)) (v := sv_r qa) (by decide +kernel) (by rw [k_a]; rfl) rfl (by decide) fl_X0_15 (congrArg sv_a eq) ?_
      refine sv_go C.1 C.2.1 [(.iload_n 1, 1), (.dup2, 1)] (pc' := 34) (by decide +kernel) rfl (lv' := [(0, sv_r a), (1, sv_i v), (2, sv_i w), (3, sv_i on), (4, sv_i 1)]) (st' := [sv_i v, sv_r qa, sv_i v, sv_r qa]) rfl ?_
      refine sv_ia C (n := 10) (by decide +kernel) (by rw [k_qa]; rfl) (by decide) (by omega) (by omega) ?_
      rw [ev1]
      refine sv_go C.1 C.2.1 [(.iconst 1, 1), (.iload_n 2, 1), (.ishl, 1), (.ixor, 1)] (pc' := 39) (by decide +kernel) rfl (lv' := [(0, sv_r a), (1, sv_i v), (2, sv_i w), (3, sv_i on), (4, sv_i 1)]) (st' := [sv_i ((Int32.ofInt v1 ^^^ Int32.ofInt ((Int32.ofInt 1 <<< (Int32.ofInt w &&& 31)).toInt)).toInt), sv_i v, sv_r qa]) rfl ?_
      have hb36 : (-2147483648) ≤ (Int32.ofInt 1 <<< (Int32.ofInt w &&& 31)).toInt ∧ (Int32.ofInt 1 <<< (Int32.ofInt w &&& 31)).toInt ≤ 2147483647 := sv_ioin2 (Int32.ofInt 1 <<< (Int32.ofInt w &&& 31))
      have hb37 : (-2147483648) ≤ (Int32.ofInt v1 ^^^ Int32.ofInt ((Int32.ofInt 1 <<< (Int32.ofInt w &&& 31)).toInt)).toInt ∧ (Int32.ofInt v1 ^^^ Int32.ofInt ((Int32.ofInt 1 <<< (Int32.ofInt w &&& 31)).toInt)).toInt ≤ 2147483647 := sv_ioin2 (Int32.ofInt v1 ^^^ Int32.ofInt ((Int32.ofInt 1 <<< (Int32.ofInt w &&& 31)).toInt))
      refine sv_is C (n := 10) (by decide +kernel) (by rw [k_qa]; rfl) (by decide) (by omega) (by omega) ⟨by omega, by omega⟩ (hTA _ (by rw [k_qa]; decide)) hok (fun hok38 => ?_)
      have hI40 := hI.up (a := qa) (k := (v : Int).toNat) (z := (Int32.ofInt v1 ^^^ Int32.ofInt ((Int32.ofInt 1 <<< (Int32.ofInt w &&& 31)).toInt)).toInt) (by rw [k_qa]; exact trivial)
      have hF41 := hF.up (a := qa) (k := (v : Int).toNat) (z := (Int32.ofInt v1 ^^^ Int32.ofInt ((Int32.ofInt 1 <<< (Int32.ofInt w &&& 31)).toInt)).toInt) (Or.inl (by rw [k_qa]; decide))
      generalize eσ39 : sv_up σ qa (v : Int).toNat ((Int32.ofInt v1 ^^^ Int32.ofInt ((Int32.ofInt 1 <<< (Int32.ofInt w &&& 31)).toInt)).toInt) = σ39 at hok38 hI40 hF41 ⊢
      have t42 : σ39 a 3 = (qa : Int) + 1 := by rw [← eσ39, sv_up_a (sv_ne k_a k_qa (by decide))]; exact eq
      have t44 : σ39 qa (v : Int).toNat = (Int32.ofInt v1 ^^^ Int32.ofInt ((Int32.ofInt 1 <<< (Int32.ofInt w &&& 31)).toInt)).toInt := by rw [← eσ39]; exact sv_up_s _ _ _ _
      refine sv_go C.1 C.2.1 [(.aload_n 0, 1)] (pc' := 41) (by decide +kernel) rfl (lv' := [(0, sv_r a), (1, sv_i v), (2, sv_i w), (3, sv_i on), (4, sv_i 1)]) (st' := [sv_r a]) rfl ?_
      refine sv_gf C (index := 15) (ci := 0) (k := 3) (r := (RX0, TX0, 12)) (v := sv_r qa) (by decide +kernel) (by rw [k_a]; rfl) rfl (by decide) fl_X0_15 (congrArg sv_a t42) ?_
      refine sv_go C.1 C.2.1 [(.iload_n 2, 1), (.dup2, 1)] (pc' := 46) (by decide +kernel) rfl (lv' := [(0, sv_r a), (1, sv_i v), (2, sv_i w), (3, sv_i on), (4, sv_i 1)]) (st' := [sv_i w, sv_r qa, sv_i w, sv_r qa]) rfl ?_
      refine sv_ia C (n := 10) (by decide +kernel) (by rw [k_qa]; rfl) (by decide) (by omega) (by omega) ?_
      obtain ⟨v45, ev45, hv45⟩ := sv_rde hok38 (a := qa) (k := (w : Int).toNat) (n := 10) (by rw [k_qa]; rfl) (by omega)
      rw [ev45]
      refine sv_go C.1 C.2.1 [(.iconst 1, 1), (.iload_n 1, 1), (.ishl, 1), (.ixor, 1)] (pc' := 51) (by decide +kernel) rfl (lv' := [(0, sv_r a), (1, sv_i v), (2, sv_i w), (3, sv_i on), (4, sv_i 1)]) (st' := [sv_i ((Int32.ofInt v45 ^^^ Int32.ofInt ((Int32.ofInt 1 <<< (Int32.ofInt v &&& 31)).toInt)).toInt), sv_i w, sv_r qa]) rfl ?_
      have hb46 : (-2147483648) ≤ (Int32.ofInt 1 <<< (Int32.ofInt v &&& 31)).toInt ∧ (Int32.ofInt 1 <<< (Int32.ofInt v &&& 31)).toInt ≤ 2147483647 := sv_ioin2 (Int32.ofInt 1 <<< (Int32.ofInt v &&& 31))
      have hb47 : (-2147483648) ≤ (Int32.ofInt v45 ^^^ Int32.ofInt ((Int32.ofInt 1 <<< (Int32.ofInt v &&& 31)).toInt)).toInt ∧ (Int32.ofInt v45 ^^^ Int32.ofInt ((Int32.ofInt 1 <<< (Int32.ofInt v &&& 31)).toInt)).toInt ≤ 2147483647 := sv_ioin2 (Int32.ofInt v45 ^^^ Int32.ofInt ((Int32.ofInt 1 <<< (Int32.ofInt v &&& 31)).toInt))
      refine sv_is C (n := 10) (by decide +kernel) (by rw [k_qa]; rfl) (by decide) (by omega) (by omega) ⟨by omega, by omega⟩ (hTA _ (by rw [k_qa]; decide)) hok38 (fun hok48 => ?_)
      have hI50 := hI40.up (a := qa) (k := (w : Int).toNat) (z := (Int32.ofInt v45 ^^^ Int32.ofInt ((Int32.ofInt 1 <<< (Int32.ofInt v &&& 31)).toInt)).toInt) (by rw [k_qa]; exact trivial)
      have hF51 := hF41.up (a := qa) (k := (w : Int).toNat) (z := (Int32.ofInt v45 ^^^ Int32.ofInt ((Int32.ofInt 1 <<< (Int32.ofInt v &&& 31)).toInt)).toInt) (Or.inl (by rw [k_qa]; decide))
      generalize eσ49 : sv_up σ39 qa (w : Int).toNat ((Int32.ofInt v45 ^^^ Int32.ofInt ((Int32.ofInt 1 <<< (Int32.ofInt v &&& 31)).toInt)).toInt) = σ49 at hok48 hI50 hF51 ⊢
      have t52 : σ49 a 3 = (qa : Int) + 1 := by rw [← eσ49, sv_up_a (sv_ne k_a k_qa (by decide))]; exact t42
      have t55 : σ49 qa (w : Int).toNat = (Int32.ofInt v45 ^^^ Int32.ofInt ((Int32.ofInt 1 <<< (Int32.ofInt v &&& 31)).toInt)).toInt := by rw [← eσ49]; exact sv_up_s _ _ _ _
      refine sv_go C.1 C.2.1 [(.aload_n 0, 1), (.dup, 1)] (pc' := 54) (by decide +kernel) rfl (lv' := [(0, sv_r a), (1, sv_i v), (2, sv_i w), (3, sv_i on), (4, sv_i 1)]) (st' := [sv_r a, sv_r a]) rfl ?_
      obtain ⟨v56, ev56, hv56⟩ := sv_rdk hok48 (a := a) (k := 1) (ci := 0) (r := (RX0, TX0, 12)) (by rw [k_a]; rfl) rfl (by decide) rfl
      refine sv_gf C (index := 33) (ci := 0) (k := 1) (r := (RX0, TX0, 12)) (v := sv_i v56) (by decide +kernel) (by rw [k_a]; rfl) rfl (by decide) fl_X0_33 (congrArg sv_i ev56) ?_
      refine sv_go C.1 C.2.1 [(.iload_n 3, 1)] (pc' := 58) (by decide +kernel) rfl (lv' := [(0, sv_r a), (1, sv_i v), (2, sv_i w), (3, sv_i on), (4, sv_i 1)]) (st' := [sv_i on, sv_i v56, sv_r a]) rfl ?_
      refine sv_if_t C.1 C.2.1 (cnd := .eq) (off := 7) (tgt := 65) (by decide +kernel) (by decide) ⟨by omega, by omega⟩ (show on = 0 by omega) ?_
      refine sv_go C.1 C.2.1 [(.iconst (-1), 1), (.iadd, 1)] (pc' := 67) (by decide +kernel) rfl (lv' := [(0, sv_r a), (1, sv_i v), (2, sv_i w), (3, sv_i on), (4, sv_i 1)]) (st' := [sv_i (v56 + ((-1))), sv_r a]) rfl ?_
      obtain ⟨w57, hw57, ew57⟩ := sv_wr (v56 + ((-1)))
      refine sv_sameD (st2 := [sv_i w57, sv_r a]) (lv2 := [(0, sv_r a), (1, sv_i v), (2, sv_i w), (3, sv_i on), (4, sv_i 1)]) (by simp only [List.map_cons, List.map_nil, sv_den_i, ew57]) rfl ?_
      refine sv_pf C (index := 33) (ci := 0) (k := 1) (r := (RX0, TX0, 12)) (z := w57) (by decide +kernel) (by rw [k_a]; rfl) rfl (by decide) rfl fl_X0_33 rfl (Or.inl rfl) ⟨by omega, by omega⟩ (hTA _ (by rw [k_a]; decide)) hok48 (fun hok58 => ?_)
      have hI60 := hI50.up (a := a) (k := 1) (z := w57) (by rw [k_a]; exact trivial)
      have hF61 := hF51.up (a := a) (k := 1) (z := w57) (Or.inr (by rw [k_a]; decide))
      generalize eσ59 : sv_up σ49 a 1 w57 = σ59 at hok58 hI60 hF61 ⊢
      have t62 : σ59 a 3 = (qa : Int) + 1 := by rw [← eσ59, sv_up_k (by decide)]; exact t52
      have t63 : σ59 qa (w : Int).toNat = (Int32.ofInt v45 ^^^ Int32.ofInt ((Int32.ofInt 1 <<< (Int32.ofInt v &&& 31)).toInt)).toInt := by rw [← eσ59, sv_up_a (sv_ne k_qa k_a (by decide))]; exact t55
      have t64 : σ59 a 1 = w57 := by rw [← eσ59]; exact sv_up_s _ _ _ _
      refine sv_go C.1 C.2.1 [(.iconst 1, 1)] (pc' := 71) (by decide +kernel) rfl (lv' := [(0, sv_r a), (1, sv_i v), (2, sv_i w), (3, sv_i on), (4, sv_i 1)]) (st' := [sv_i 1]) rfl ?_
      exact sv_zret C hr (by omega) (by decide +kernel) hok58 (⟨⟨_, rfl, ⟨by omega, by omega⟩, fun _ _ => (by right; exact ⟨rfl, by rw [ev1]; unfold fq_bit; omega, fq_up ev1 eσ39 ev45 eσ49 eσ59 (sv_ne k_qa k_a (by decide)) h_v h_w hvw⟩)⟩, hI60, hF61⟩)
    · refine sv_go C.1 C.2.1 [(.iconst 0, 1)] (pc' := 27) (by decide +kernel) rfl (lv' := [(0, sv_r a), (1, sv_i v), (2, sv_i w), (3, sv_i on), (4, sv_i 1)]) (st' := [sv_i 0]) rfl ?_
      exact sv_zret C hr (by omega) (by decide +kernel) hok (⟨⟨_, rfl, ⟨by omega, by omega⟩, fun _ _ => (by left; exact ⟨rfl, by rw [ev1]; unfold fq_bit; omega, fun j => rfl⟩)⟩, hI, hF⟩)

set_option maxHeartbeats 4000000 in
set_option maxRecDepth 100000 in
theorem ct_X9_quarrel (l : Launch) (g : sv_G) (A : Nat → Prop) (ty : Nat → Nat) (σ : Nat → Nat → Int) (hok : sv_ok ty σ) (hTA : ∀ q, ty q ≠ 0 → A q) (hI : sv_inv sp_1 ty σ) (a : Nat) (k_a : ty a = 1) (ar1 : Int) (h_ar1 : (-2147483648) ≤ ar1 ∧ ar1 ≤ 2147483647) (ar2 : Int) (h_ar2 : (-2147483648) ≤ ar2 ∧ ar2 ≤ 2147483647) (on : Int) (h_on : 0 ≤ on ∧ on ≤ 1) (bq : Nat) (k_bq : ty bq = 5) (qa : Nat) (k_qa : ty qa = 31) (eb : σ a 3 = (bq : Int) + 1) (eq : σ bq 3 = (qa : Int) + 1) : sv_M l yX9_quarrel cX9_quarrel 4 (some .int) { frames := 1, cells := 0, slots := 0, locals := 24 } g A ty σ [sv_r a, sv_i ar1, sv_i ar2, sv_i on] (fun r σ' => (∃ rv : Int, r = [sv_i rv] ∧ ((-2) ≤ rv ∧ rv ≤ 1) ∧ ((-2147483648) ≤ rv → rv ≤ 2147483647 → fq_cls σ σ' qa ar1 ar2 on rv)) ∧ sv_inv sp_1 ty σ' ∧ sv_ofx [(5, 1)] [31] ty σ σ') := by
  refine sv_enter (by decide) (Nat.le_of_ble_eq_true rfl) ?_
  intro p e s m args below meth c C hr
  have C : sv_C g A RX9 cX9_quarrel 4 p s m args meth c := C
  have hr : meth.sig.returnType = (some .int) := hr
  have hF : sv_ofx [(5, 1)] [31] ty σ σ := sv_ofx.rf
  refine sv_same (st2 := []) (lv2 := [(0, sv_r a), (1, sv_i ar1), (2, sv_i ar2), (3, sv_i on)]) rfl rfl ?_
  refine sv_go C.1 C.2.1 [(.iload_n 1, 1)] (pc' := 1) (by decide +kernel) rfl (lv' := [(0, sv_r a), (1, sv_i ar1), (2, sv_i ar2), (3, sv_i on)]) (st' := [sv_i ar1]) rfl ?_
  refine sv_cs C (index := 154) (k := 1) (rest := []) (by decide +kernel) (sf2_X9_isBrotherhood l g A ty σ hok hTA hI (ar1) ⟨by omega, by omega⟩) ⟨co_X9_isBrotherhood, in_X9, ⟨by decide, by decide, by decide +kernel⟩, Nat.le_of_ble_eq_true rfl, Nat.le_of_ble_eq_true rfl⟩ ml_X9_154 st_X9_isBrotherhood rfl rfl (Nat.le_of_ble_eq_true rfl) ⟨Nat.zero_le _, Nat.zero_le _⟩ (fun r2 σ3 hpo1 hok4 => ?_)
  obtain ⟨rfl, ⟨vu5, rfl, hvu5, ivu5_0, ivu5_1⟩⟩ := hpo1
  refine sv_same (st2 := [sv_i vu5]) (lv2 := [(0, sv_r a), (1, sv_i ar1), (2, sv_i ar2), (3, sv_i on)]) rfl rfl ?_
  refine sv_if C.1 C.2.1 (cnd := .eq) (off := 15) (tgt := 19) (by decide +kernel) (by decide) ⟨by omega, by omega⟩ (fun (h6 : vu5 = 0) => ?_) (fun (h6 : ¬ (vu5 = 0)) => ?_)
  · have hp7 := ivu5_1 (by omega) (by omega)
    refine sv_go C.1 C.2.1 [(.bipush (-2), 2)] (pc' := 21) (by decide +kernel) rfl (lv' := [(0, sv_r a), (1, sv_i ar1), (2, sv_i ar2), (3, sv_i on)]) (st' := [sv_i ((-2))]) rfl ?_
    exact sv_iret C hr (by decide +kernel) hok4 (⟨⟨_, rfl, ⟨by omega, by omega⟩, fun _ _ => ⟨fun h => absurd h (by unfold fq_ok; omega), fun _ => ⟨rfl, fun j => rfl⟩⟩⟩, hI, hF⟩)
  · have hp8 := ivu5_0 (by omega) (by omega)
    refine sv_go C.1 C.2.1 [(.iload_n 2, 1)] (pc' := 8) (by decide +kernel) rfl (lv' := [(0, sv_r a), (1, sv_i ar1), (2, sv_i ar2), (3, sv_i on)]) (st' := [sv_i ar2]) rfl ?_
    refine sv_cs C (index := 154) (k := 1) (rest := []) (by decide +kernel) (sf2_X9_isBrotherhood l g A ty σ hok4 hTA hI (ar2) ⟨by omega, by omega⟩) ⟨co_X9_isBrotherhood, in_X9, ⟨by decide, by decide, by decide +kernel⟩, Nat.le_of_ble_eq_true rfl, Nat.le_of_ble_eq_true rfl⟩ ml_X9_154 st_X9_isBrotherhood rfl rfl (Nat.le_of_ble_eq_true rfl) ⟨Nat.zero_le _, Nat.zero_le _⟩ (fun r10 σ11 hpo9 hok12 => ?_)
    obtain ⟨rfl, ⟨vu13, rfl, hvu13, ivu13_0, ivu13_1⟩⟩ := hpo9
    refine sv_same (st2 := [sv_i vu13]) (lv2 := [(0, sv_r a), (1, sv_i ar1), (2, sv_i ar2), (3, sv_i on)]) rfl rfl ?_
    refine sv_if C.1 C.2.1 (cnd := .eq) (off := 8) (tgt := 19) (by decide +kernel) (by decide) ⟨by omega, by omega⟩ (fun (h14 : vu13 = 0) => ?_) (fun (h14 : ¬ (vu13 = 0)) => ?_)
    · have hp15 := ivu13_1 (by omega) (by omega)
      refine sv_go C.1 C.2.1 [(.bipush (-2), 2)] (pc' := 21) (by decide +kernel) rfl (lv' := [(0, sv_r a), (1, sv_i ar1), (2, sv_i ar2), (3, sv_i on)]) (st' := [sv_i ((-2))]) rfl ?_
      exact sv_iret C hr (by decide +kernel) hok12 (⟨⟨_, rfl, ⟨by omega, by omega⟩, fun _ _ => ⟨fun h => absurd h (by unfold fq_ok; omega), fun _ => ⟨rfl, fun j => rfl⟩⟩⟩, hI, hF⟩)
    · have hp16 := ivu13_0 (by omega) (by omega)
      refine sv_go C.1 C.2.1 [(.iload_n 1, 1), (.iload_n 2, 1)] (pc' := 16) (by decide +kernel) rfl (lv' := [(0, sv_r a), (1, sv_i ar1), (2, sv_i ar2), (3, sv_i on)]) (st' := [sv_i ar2, sv_i ar1]) rfl ?_
      refine sv_icmp C.1 C.2.1 (cnd := .ne) (off := 6) (tgt := 22) (by decide +kernel) (by decide) ⟨by omega, by omega⟩ ⟨by omega, by omega⟩ (fun (h17 : ar1 ≠ ar2) => ?_) (fun (h17 : ¬ (ar1 ≠ ar2)) => ?_)
      · refine sv_go C.1 C.2.1 [(.aload_n 0, 1)] (pc' := 23) (by decide +kernel) rfl (lv' := [(0, sv_r a), (1, sv_i ar1), (2, sv_i ar2), (3, sv_i on)]) (st' := [sv_r a]) rfl ?_
        refine sv_gf C (index := 33) (ci := 8) (k := 3) (r := (RX9, TX9, 6)) (v := sv_r bq) (by decide +kernel) (by rw [k_a]; rfl) rfl (by decide) fl_X9_33 (congrArg sv_a eb) ?_
        refine sv_go C.1 C.2.1 [(.iload_n 1, 1), (.iload_n 2, 1), (.iload_n 3, 1)] (pc' := 29) (by decide +kernel) rfl (lv' := [(0, sv_r a), (1, sv_i ar1), (2, sv_i ar2), (3, sv_i on)]) (st' := [sv_i on, sv_i ar2, sv_i ar1, sv_r bq]) rfl ?_
        refine sv_cv C (index := 157) (k := 3) (rest := []) (ci := 0) (r := (RX0, TX0, 12)) (by decide +kernel) (ct_X0_setQuarrel l g A ty σ hok12 hTA hI bq k_bq (ar1) ⟨by omega, by omega⟩ (ar2) ⟨by omega, by omega⟩ (on) ⟨by omega, by omega⟩ qa k_qa eq (by omega)) ⟨co_X0_setQuarrel, in_X0, ⟨by decide, by decide, by decide +kernel⟩, Nat.le_of_ble_eq_true rfl, Nat.le_of_ble_eq_true rfl⟩ ml_X9_157 im_X0_setQuarrel se_X0_setQuarrel (by rw [k_bq]; rfl) rfl rfl rfl (Nat.le_of_ble_eq_true rfl) ⟨Nat.zero_le _, Nat.zero_le _⟩ (fun r19 σ20 hpo18 hok21 => ?_)
        obtain ⟨⟨vu22, rfl, hvu22, ivu22_0⟩, hIu22, hFu22⟩ := hpo18
        have hGu22 := hF.tr hFu22 (by decide) (by decide)
        have t23 : σ20 a 3 = (bq : Int) + 1 := (hFu22.at k_a (by decide) (by decide)).trans eb
        have t24 : σ20 bq 3 = (qa : Int) + 1 := (hFu22.at k_bq (by decide) (by decide)).trans eq
        have hp25 := ivu22_0 (by omega) (by omega)
        refine sv_same (st2 := [sv_i vu22]) (lv2 := [(0, sv_r a), (1, sv_i ar1), (2, sv_i ar2), (3, sv_i on)]) rfl rfl ?_
        refine sv_if C.1 C.2.1 (cnd := .eq) (off := 7) (tgt := 39) (by decide +kernel) (by decide) ⟨by omega, by omega⟩ (fun (h26 : vu22 = 0) => ?_) (fun (h26 : ¬ (vu22 = 0)) => ?_)
        · refine sv_go C.1 C.2.1 [(.iconst 0, 1)] (pc' := 40) (by decide +kernel) rfl (lv' := [(0, sv_r a), (1, sv_i ar1), (2, sv_i ar2), (3, sv_i on)]) (st' := [sv_i 0]) rfl ?_
          exact sv_iret C hr (by decide +kernel) hok21 (⟨⟨_, rfl, ⟨by omega, by omega⟩, fun _ _ => ⟨fun _ => (by have hz := hp25; rw [show vu22 = 0 by omega] at hz; exact hz), fun h => absurd (by unfold fq_ok; omega) h⟩⟩, hIu22, hGu22⟩)
        · refine sv_go C.1 C.2.1 [(.iconst 1, 1)] (pc' := 36) (by decide +kernel) rfl (lv' := [(0, sv_r a), (1, sv_i ar1), (2, sv_i ar2), (3, sv_i on)]) (st' := [sv_i 1]) rfl ?_
          refine sv_goto C.1 C.2.1 (off := 4) (tgt := 40) (by decide +kernel) (by decide) ?_
          exact sv_iret C hr (by decide +kernel) hok21 (⟨⟨_, rfl, ⟨by omega, by omega⟩, fun _ _ => ⟨fun _ => (by have hz := hp25; rw [show vu22 = 1 by omega] at hz; exact hz), fun h => absurd (by unfold fq_ok; omega) h⟩⟩, hIu22, hGu22⟩)
      · refine sv_go C.1 C.2.1 [(.bipush (-2), 2)] (pc' := 21) (by decide +kernel) rfl (lv' := [(0, sv_r a), (1, sv_i ar1), (2, sv_i ar2), (3, sv_i on)]) (st' := [sv_i ((-2))]) rfl ?_
        exact sv_iret C hr (by decide +kernel) hok12 (⟨⟨_, rfl, ⟨by omega, by omega⟩, fun _ _ => ⟨fun h => absurd h (by unfold fq_ok; omega), fun _ => ⟨rfl, fun j => rfl⟩⟩⟩, hI, hF⟩)

set_option maxHeartbeats 4000000 in
set_option maxRecDepth 100000 in
theorem ct_X11_quarrel (l : Launch) (g : sv_G) (A : Nat → Prop) (ty : Nat → Nat) (σ : Nat → Nat → Int) (hok : sv_ok ty σ) (hTA : ∀ q, ty q ≠ 0 → A q) (hI : sv_inv sp_1 ty σ) (a : Nat) (k_a : ty a = 10) (ar1 : Int) (h_ar1 : (-2147483648) ≤ ar1 ∧ ar1 ≤ 2147483647) (ar2 : Int) (h_ar2 : (-2147483648) ≤ ar2 ∧ ar2 ≤ 2147483647) (on : Int) (h_on : 0 ≤ on ∧ on ≤ 1) (qm : Nat) (k_qm : ty qm = 93) (em : σ a 33 = (qm : Int) + 1) : sv_M l yX11_quarrel cX11_quarrel 5 (some .int) { frames := 2, cells := 0, slots := 0, locals := 45 } g A ty σ [sv_r a, sv_i ar1, sv_i ar2, sv_i on] (fun r σ' => (∃ rv : Int, r = [sv_i rv] ∧ ((-2) ≤ rv ∧ rv ≤ 1) ∧ ((-2147483648) ≤ rv → rv ≤ 2147483647 → fq_ref σ σ' qm ar1 ar2 on rv)) ∧ sv_inv sp_1 ty σ' ∧ sv_ofx [] [93] ty σ σ') := by
  refine sv_enter (by decide) (Nat.le_of_ble_eq_true rfl) ?_
  intro p e s m args below meth c C hr
  have C : sv_C g A RX11 cX11_quarrel 5 p s m args meth c := C
  have hr : meth.sig.returnType = (some .int) := hr
  have hF : sv_ofx [] [93] ty σ σ := sv_ofx.rf
  refine sv_same (st2 := []) (lv2 := [(0, sv_r a), (1, sv_i ar1), (2, sv_i ar2), (3, sv_i on)]) rfl rfl ?_
  refine sv_go C.1 C.2.1 [(.iload_n 1, 1)] (pc' := 1) (by decide +kernel) rfl (lv' := [(0, sv_r a), (1, sv_i ar1), (2, sv_i ar2), (3, sv_i on)]) (st' := [sv_i ar1]) rfl ?_
  refine sv_cs C (index := 316) (k := 1) (rest := []) (by decide +kernel) (sf2_X11_isBrotherhood l g A ty σ hok hTA hI (ar1) ⟨by omega, by omega⟩) ⟨co_X11_isBrotherhood, in_X11, ⟨by decide, by decide, by decide +kernel⟩, Nat.le_of_ble_eq_true rfl, Nat.le_of_ble_eq_true rfl⟩ ml_X11_316 st_X11_isBrotherhood rfl rfl (Nat.le_of_ble_eq_true rfl) ⟨Nat.zero_le _, Nat.zero_le _⟩ (fun r2 σ3 hpo1 hok4 => ?_)
  obtain ⟨rfl, ⟨vu5, rfl, hvu5, ivu5_0, ivu5_1⟩⟩ := hpo1
  refine sv_same (st2 := [sv_i vu5]) (lv2 := [(0, sv_r a), (1, sv_i ar1), (2, sv_i ar2), (3, sv_i on)]) rfl rfl ?_
  refine sv_if C.1 C.2.1 (cnd := .eq) (off := 15) (tgt := 19) (by decide +kernel) (by decide) ⟨by omega, by omega⟩ (fun (h6 : vu5 = 0) => ?_) (fun (h6 : ¬ (vu5 = 0)) => ?_)
  · have hp7 := ivu5_1 (by omega) (by omega)
    refine sv_go C.1 C.2.1 [(.bipush (-2), 2)] (pc' := 21) (by decide +kernel) rfl (lv' := [(0, sv_r a), (1, sv_i ar1), (2, sv_i ar2), (3, sv_i on)]) (st' := [sv_i ((-2))]) rfl ?_
    exact sv_iret C hr (by decide +kernel) hok4 (⟨⟨_, rfl, ⟨by omega, by omega⟩, fun _ _ => ⟨fun h => absurd h (by unfold fq_ok; omega), fun _ => ⟨rfl, fun j => rfl⟩⟩⟩, hI, hF⟩)
  · have hp8 := ivu5_0 (by omega) (by omega)
    refine sv_go C.1 C.2.1 [(.iload_n 2, 1)] (pc' := 8) (by decide +kernel) rfl (lv' := [(0, sv_r a), (1, sv_i ar1), (2, sv_i ar2), (3, sv_i on)]) (st' := [sv_i ar2]) rfl ?_
    refine sv_cs C (index := 316) (k := 1) (rest := []) (by decide +kernel) (sf2_X11_isBrotherhood l g A ty σ hok4 hTA hI (ar2) ⟨by omega, by omega⟩) ⟨co_X11_isBrotherhood, in_X11, ⟨by decide, by decide, by decide +kernel⟩, Nat.le_of_ble_eq_true rfl, Nat.le_of_ble_eq_true rfl⟩ ml_X11_316 st_X11_isBrotherhood rfl rfl (Nat.le_of_ble_eq_true rfl) ⟨Nat.zero_le _, Nat.zero_le _⟩ (fun r10 σ11 hpo9 hok12 => ?_)
    obtain ⟨rfl, ⟨vu13, rfl, hvu13, ivu13_0, ivu13_1⟩⟩ := hpo9
    refine sv_same (st2 := [sv_i vu13]) (lv2 := [(0, sv_r a), (1, sv_i ar1), (2, sv_i ar2), (3, sv_i on)]) rfl rfl ?_
    refine sv_if C.1 C.2.1 (cnd := .eq) (off := 8) (tgt := 19) (by decide +kernel) (by decide) ⟨by omega, by omega⟩ (fun (h14 : vu13 = 0) => ?_) (fun (h14 : ¬ (vu13 = 0)) => ?_)
    · have hp15 := ivu13_1 (by omega) (by omega)
      refine sv_go C.1 C.2.1 [(.bipush (-2), 2)] (pc' := 21) (by decide +kernel) rfl (lv' := [(0, sv_r a), (1, sv_i ar1), (2, sv_i ar2), (3, sv_i on)]) (st' := [sv_i ((-2))]) rfl ?_
      exact sv_iret C hr (by decide +kernel) hok12 (⟨⟨_, rfl, ⟨by omega, by omega⟩, fun _ _ => ⟨fun h => absurd h (by unfold fq_ok; omega), fun _ => ⟨rfl, fun j => rfl⟩⟩⟩, hI, hF⟩)
    · have hp16 := ivu13_0 (by omega) (by omega)
      refine sv_go C.1 C.2.1 [(.iload_n 1, 1), (.iload_n 2, 1)] (pc' := 16) (by decide +kernel) rfl (lv' := [(0, sv_r a), (1, sv_i ar1), (2, sv_i ar2), (3, sv_i on)]) (st' := [sv_i ar2, sv_i ar1]) rfl ?_
      refine sv_icmp C.1 C.2.1 (cnd := .ne) (off := 6) (tgt := 22) (by decide +kernel) (by decide) ⟨by omega, by omega⟩ ⟨by omega, by omega⟩ (fun (h17 : ar1 ≠ ar2) => ?_) (fun (h17 : ¬ (ar1 ≠ ar2)) => ?_)
      · refine sv_go C.1 C.2.1 [(.aload_n 0, 1)] (pc' := 23) (by decide +kernel) rfl (lv' := [(0, sv_r a), (1, sv_i ar1), (2, sv_i ar2), (3, sv_i on)]) (st' := [sv_r a]) rfl ?_
        refine sv_gf C (index := 127) (ci := 10) (k := 33) (r := (RX11, TX11, 47)) (v := sv_r qm) (by decide +kernel) (by rw [k_a]; rfl) rfl (by decide) fl_X11_127 (congrArg sv_a em) ?_
        refine sv_go C.1 C.2.1 [(.bipush 10, 2), (.iload_n 1, 1), (.imul, 1), (.iload_n 2, 1), (.iadd, 1)] (pc' := 32) (by decide +kernel) rfl (lv' := [(0, sv_r a), (1, sv_i ar1), (2, sv_i ar2), (3, sv_i on)]) (st' := [sv_i ((10 * ar1) + ar2), sv_r qm]) rfl ?_
        refine sv_za C (n := 100) (by decide +kernel) (by rw [k_qm]; rfl) (by decide) (by omega) (by omega) ?_
        obtain ⟨v18, ev18, hv18⟩ := sv_rdez hok12 (a := qm) (k := ((10 * ar1) + ar2 : Int).toNat) (n := 100) (by rw [k_qm]; rfl) (by omega)
        rw [ev18]
        refine sv_go C.1 C.2.1 [(.istore 4, 2), (.aload_n 0, 1)] (pc' := 36) (by decide +kernel) rfl (lv' := [(0, sv_r a), (1, sv_i ar1), (2, sv_i ar2), (3, sv_i on), (4, sv_i v18)]) (st' := [sv_r a]) rfl ?_
        refine sv_gf C (index := 127) (ci := 10) (k := 33) (r := (RX11, TX11, 47)) (v := sv_r qm) (by decide +kernel) (by rw [k_a]; rfl) rfl (by decide) fl_X11_127 (congrArg sv_a em) ?_
        refine sv_go C.1 C.2.1 [(.bipush 10, 2), (.iload_n 1, 1), (.imul, 1), (.iload_n 2, 1), (.iadd, 1), (.iload_n 3, 1)] (pc' := 46) (by decide +kernel) rfl (lv' := [(0, sv_r a), (1, sv_i ar1), (2, sv_i ar2), (3, sv_i on), (4, sv_i v18)]) (st' := [sv_i on, sv_i ((10 * ar1) + ar2), sv_r qm]) rfl ?_
        refine sv_zs C (n := 100) (by decide +kernel) (by rw [k_qm]; rfl) (by decide) (by omega) (by omega) ⟨by omega, by omega⟩ (hTA _ (by rw [k_qm]; decide)) hok12 (fun hok19 => ?_)
        have hI21 := hI.up (a := qm) (k := ((10 * ar1) + ar2 : Int).toNat) (z := on) (by rw [k_qm]; exact trivial)
        have hF22 := hF.up (a := qm) (k := ((10 * ar1) + ar2 : Int).toNat) (z := on) (Or.inl (by rw [k_qm]; decide))
        generalize eσ20 : sv_up σ qm ((10 * ar1) + ar2 : Int).toNat on = σ20 at hok19 hI21 hF22 ⊢
        have t23 : σ20 a 33 = (qm : Int) + 1 := by rw [← eσ20, sv_up_a (sv_ne k_a k_qm (by decide))]; exact em
        have t25 : σ20 qm ((10 * ar1) + ar2 : Int).toNat = on := by rw [← eσ20]; exact sv_up_s _ _ _ _
        refine sv_go C.1 C.2.1 [(.aload_n 0, 1)] (pc' := 48) (by decide +kernel) rfl (lv' := [(0, sv_r a), (1, sv_i ar1), (2, sv_i ar2), (3, sv_i on), (4, sv_i v18)]) (st' := [sv_r a]) rfl ?_
        refine sv_gf C (index := 127) (ci := 10) (k := 33) (r := (RX11, TX11, 47)) (v := sv_r qm) (by decide +kernel) (by rw [k_a]; rfl) rfl (by decide) fl_X11_127 (congrArg sv_a t23) ?_
        refine sv_go C.1 C.2.1 [(.bipush 10, 2), (.iload_n 2, 1), (.imul, 1), (.iload_n 1, 1), (.iadd, 1), (.iload_n 3, 1)] (pc' := 58) (by decide +kernel) rfl (lv' := [(0, sv_r a), (1, sv_i ar1), (2, sv_i ar2), (3, sv_i on), (4, sv_i v18)]) (st' := [sv_i on, sv_i ((10 * ar2) + ar1), sv_r qm]) rfl ?_
        refine sv_zs C (n := 100) (by decide +kernel) (by rw [k_qm]; rfl) (by decide) (by omega) (by omega) ⟨by omega, by omega⟩ (hTA _ (by rw [k_qm]; decide)) hok19 (fun hok26 => ?_)
        have hI28 := hI21.up (a := qm) (k := ((10 * ar2) + ar1 : Int).toNat) (z := on) (by rw [k_qm]; exact trivial)
        have hF29 := hF22.up (a := qm) (k := ((10 * ar2) + ar1 : Int).toNat) (z := on) (Or.inl (by rw [k_qm]; decide))
        generalize eσ27 : sv_up σ20 qm ((10 * ar2) + ar1 : Int).toNat on = σ27 at hok26 hI28 hF29 ⊢
        have t30 : σ27 a 33 = (qm : Int) + 1 := by rw [← eσ27, sv_up_a (sv_ne k_a k_qm (by decide))]; exact t23
        have t32 : σ27 qm ((10 * ar2) + ar1 : Int).toNat = on := by rw [← eσ27]; exact sv_up_s _ _ _ _
        refine sv_go C.1 C.2.1 [(.iload 4, 2), (.iload_n 3, 1)] (pc' := 62) (by decide +kernel) rfl (lv' := [(0, sv_r a), (1, sv_i ar1), (2, sv_i ar2), (3, sv_i on), (4, sv_i v18)]) (st' := [sv_i on, sv_i v18]) rfl ?_
        refine sv_icmp C.1 C.2.1 (cnd := .ne) (off := 7) (tgt := 69) (by decide +kernel) (by decide) ⟨by omega, by omega⟩ ⟨by omega, by omega⟩ (fun (h33 : v18 ≠ on) => ?_) (fun (h33 : ¬ (v18 ≠ on)) => ?_)
        · refine sv_go C.1 C.2.1 [(.iconst 1, 1)] (pc' := 70) (by decide +kernel) rfl (lv' := [(0, sv_r a), (1, sv_i ar1), (2, sv_i ar2), (3, sv_i on), (4, sv_i v18)]) (st' := [sv_i 1]) rfl ?_
          exact sv_iret C hr (by decide +kernel) hok26 (⟨⟨_, rfl, ⟨by omega, by omega⟩, fun _ _ => ⟨fun _ => ⟨by first | rw [if_pos (by omega)] | rw [if_neg (by omega)], fun j => by rw [← eσ27, ← eσ20]; exact zs_two _ _ _ _ _ j⟩, fun h => absurd (by unfold fq_ok; omega) h⟩⟩, hI28, hF29⟩)
        · refine sv_go C.1 C.2.1 [(.iconst 0, 1)] (pc' := 66) (by decide +kernel) rfl (lv' := [(0, sv_r a), (1, sv_i ar1), (2, sv_i ar2), (3, sv_i on), (4, sv_i v18)]) (st' := [sv_i 0]) rfl ?_
          refine sv_goto C.1 C.2.1 (off := 4) (tgt := 70) (by decide +kernel) (by decide) ?_
          exact sv_iret C hr (by decide +kernel) hok26 (⟨⟨_, rfl, ⟨by omega, by omega⟩, fun _ _ => ⟨fun _ => ⟨by first | rw [if_pos (by omega)] | rw [if_neg (by omega)], fun j => by rw [← eσ27, ← eσ20]; exact zs_two _ _ _ _ _ j⟩, fun h => absurd (by unfold fq_ok; omega) h⟩⟩, hI28, hF29⟩)
      · refine sv_go C.1 C.2.1 [(.bipush (-2), 2)] (pc' := 21) (by decide +kernel) rfl (lv' := [(0, sv_r a), (1, sv_i ar1), (2, sv_i ar2), (3, sv_i on)]) (st' := [sv_i ((-2))]) rfl ?_
        exact sv_iret C hr (by decide +kernel) hok12 (⟨⟨_, rfl, ⟨by omega, by omega⟩, fun _ _ => ⟨fun h => absurd h (by unfold fq_ok; omega), fun _ => ⟨rfl, fun j => rfl⟩⟩⟩, hI, hF⟩)
