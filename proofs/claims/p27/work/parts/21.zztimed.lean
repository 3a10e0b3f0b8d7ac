/-! timed, exactly: the row of hindrances as differences -/
theorem zw_add (x y : Int) : zw (zw x + y) = zw (x + y) := by
  unfold zw
  rw [Int32.ofInt_add, Int32.ofInt_toInt, ← Int32.ofInt_add]
theorem zw_add2 (x y : Int) : zw (x + zw y) = zw (x + y) := by rw [Int.add_comm, zw_add, Int.add_comm]
/-- the row qh stands for the minutes that are covered -/
def zG (σ : Nat → Nat → Int) (qh : Nat) (cv : Int → Prop) (bd : Int) : Prop := ∃ G : Int → Int, G (-1) = 0 ∧ (∀ j : Nat, j ≤ 1441 → σ qh j = zw (G (j : Int) - G ((j : Int) - 1))) ∧ ∀ m : Int, 0 ≤ m → m ≤ 1440 → (0 ≤ G m ∧ G m ≤ bd) ∧ (G m = 0 ↔ ¬ cv m)
theorem zG_0 {σ : Nat → Nat → Int} {qh : Nat} (h : ∀ j : Nat, j < 1442 → σ qh j = 0) : zG σ qh (fun _ => False) 0 := ⟨fun _ => 0, rfl, fun j hj => by rw [h j (by omega)]; exact (zw_id ⟨by decide, by decide⟩).symm, fun m _ _ => ⟨⟨Int.le_refl 0, Int.le_refl 0⟩, ⟨fun _ => id, fun _ => rfl⟩⟩⟩
theorem zG_cg {σ : Nat → Nat → Int} {qh : Nat} {cv cv' : Int → Prop} {bd bd' : Int} (h : zG σ qh cv bd) (hb : bd ≤ bd') (hc : ∀ m : Int, 0 ≤ m → m ≤ 1440 → (cv' m ↔ cv m)) : zG σ qh cv' bd' := by
  obtain ⟨G, h0, h1, h2⟩ := h
  refine ⟨G, h0, h1, fun m a b => ?_⟩
  obtain ⟨⟨q1, q2⟩, q3⟩ := h2 m a b
  exact ⟨⟨q1, by omega⟩, q3.trans (not_congr (hc m a b)).symm⟩
def zh (σ σ' : Nat → Nat → Int) (b : Nat) (v w : Int) : Prop := ((0 ≤ v ∧ v ≤ w) → ∀ j : Nat, σ' b j = if j = v.toNat then zw (σ b j + 1) else if j = (w + 1).toNat then zw (σ b j - 1) else σ b j) ∧ (¬ (0 ≤ v ∧ v ≤ w) → ∀ j : Nat, σ' b j = σ b j)
theorem zh_up {σ σ1 σ2 : Nat → Nat → Int} {b i i' : Nat} {x1 x2 w1 w2 : Int} (e1 : sv_up σ b i w1 = σ1) (e2 : sv_up σ1 b i' w2 = σ2) (r1 : σ b i = x1) (r2 : σ1 b i' = x2) (h1 : w1 = zw (x1 + 1)) (h2 : w2 = zw (x2 - 1)) (hne : i' ≠ i) (j : Nat) : σ2 b j = if j = i then zw (σ b j + 1) else if j = i' then zw (σ b j - 1) else σ b j := by
  have r2' : σ b i' = x2 := by rw [← r2, ← e1, sv_up_k hne]
  rw [← e2]
  by_cases a : j = i'
  · subst a; rw [sv_up_s, if_neg hne, if_pos rfl, h2, r2']
  · rw [sv_up_k a, ← e1]
    by_cases c : j = i
    · subst c; rw [sv_up_s, if_pos rfl, h1, r1]
    · rw [sv_up_k c, if_neg c, if_neg a]
theorem zG_add {σ σ' : Nat → Nat → Int} {qh : Nat} {cv : Int → Prop} {bd v w : Int} (h : zG σ qh cv bd) (h0 : 0 ≤ v) (hvw : v ≤ w) (hw : w ≤ 1440) (hz : ∀ j : Nat, σ' qh j = if j = v.toNat then zw (σ qh j + 1) else if j = (w + 1).toNat then zw (σ qh j - 1) else σ qh j) : zG σ' qh (fun m => cv m ∨ (v ≤ m ∧ m ≤ w)) (bd + 1) := by
  obtain ⟨G, g0, g1, g2⟩ := h
  refine ⟨fun m => G m + if v ≤ m ∧ m ≤ w then 1 else 0, ?_, fun j hj => ?_, fun m a b => ?_⟩
  · show G (-1) + _ = 0
    rw [g0, if_neg (by omega)]; rfl
  · show _ = zw (G (j : Int) + (if v ≤ (j : Int) ∧ (j : Int) ≤ w then 1 else 0) - (G ((j : Int) - 1) + if v ≤ (j : Int) - 1 ∧ (j : Int) - 1 ≤ w then 1 else 0))
    rw [hz j, g1 j hj]
    by_cases a : j = v.toNat
    · rw [if_pos a, if_pos (show v ≤ (j : Int) ∧ (j : Int) ≤ w by omega), if_neg (show ¬ (v ≤ (j : Int) - 1 ∧ (j : Int) - 1 ≤ w) by omega), zw_add]
      congr 1; omega
    · rw [if_neg a]
      by_cases b : j = (w + 1).toNat
      · rw [if_pos b, if_neg (show ¬ (v ≤ (j : Int) ∧ (j : Int) ≤ w) by omega), if_pos (show v ≤ (j : Int) - 1 ∧ (j : Int) - 1 ≤ w by omega), Int.sub_eq_add_neg, zw_add]
        congr 1; omega
      · rw [if_neg b]
        by_cases c : v ≤ (j : Int) ∧ (j : Int) ≤ w
        · rw [if_pos c, if_pos (show v ≤ (j : Int) - 1 ∧ (j : Int) - 1 ≤ w by omega)]
          congr 1; omega
        · rw [if_neg c, if_neg (show ¬ (v ≤ (j : Int) - 1 ∧ (j : Int) - 1 ≤ w) by omega)]
          congr 1; omega
  · obtain ⟨⟨q1, q2⟩, q3⟩ := g2 m a b
    show (0 ≤ G m + (if v ≤ m ∧ m ≤ w then 1 else 0) ∧ G m + (if v ≤ m ∧ m ≤ w then 1 else 0) ≤ bd + 1) ∧ (G m + (if v ≤ m ∧ m ≤ w then 1 else 0) = 0 ↔ ¬ (cv m ∨ (v ≤ m ∧ m ≤ w)))
    by_cases c : v ≤ m ∧ m ≤ w
    · rw [if_pos c]
      exact ⟨⟨by omega, by omega⟩, fun h => absurd h (by omega), fun h => absurd (Or.inr c) h⟩
    · rw [if_neg c, Int.add_zero]
      exact ⟨⟨q1, by omega⟩, q3.trans ⟨fun h q => q.elim h c, fun h q => h (Or.inl q)⟩⟩
theorem zG_step {σ σ' : Nat → Nat → Int} {qh : Nat} {cv : Int → Prop} {bd f t : Int} (h : zG σ qh cv bd) (hz : zh σ σ' qh (mx 0 f) (mn 1440 t)) : zG σ' qh (fun m => cv m ∨ (f ≤ m ∧ m ≤ t)) (bd + 1) := by
  have a1 : 0 ≤ mx 0 f ∧ f ≤ mx 0 f ∧ (mx 0 f = 0 ∨ mx 0 f = f) := by unfold mx; split <;> omega
  have a2 : mn 1440 t ≤ 1440 ∧ mn 1440 t ≤ t ∧ (mn 1440 t = 1440 ∨ mn 1440 t = t) := by unfold mn; split <;> omega
  by_cases c : mx 0 f ≤ mn 1440 t
  · exact zG_cg (zG_add h a1.1 c a2.1 (hz.1 ⟨a1.1, c⟩)) (by omega) (fun m h1 h2 => or_congr Iff.rfl (by omega))
  · have e := hz.2 (fun q => c q.2)
    obtain ⟨G, g0, g1, g2⟩ := h
    refine zG_cg ⟨G, g0, fun j hj => by rw [e j]; exact g1 j hj, g2⟩ (by omega) (fun m h1 h2 => ⟨fun q => q.elim id (fun q => absurd q (by omega)), Or.inl⟩)
/-- the first minute that is free -/
def mF (cv : Int → Prop) (a rv : Int) : Prop := (rv = -1 ∧ ∀ m : Int, a ≤ m → m ≤ 1440 → cv m) ∨ (a ≤ rv ∧ rv ≤ 1440 ∧ ¬ cv rv ∧ ∀ m : Int, a ≤ m → m < rv → cv m)
theorem mF_eq {cv cv' : Int → Prop} {a r1 r2 : Int} (ha : 0 ≤ a) (hc : ∀ m : Int, 0 ≤ m → m ≤ 1440 → (cv m ↔ cv' m)) (h1 : mF cv a r1) (h2 : mF cv' a r2) : r1 = r2 := by
  rcases h1 with ⟨a1, a2⟩ | ⟨a1, a2, a3, a4⟩
  · rcases h2 with ⟨b1, b2⟩ | ⟨b1, b2, b3, b4⟩
    · rw [a1, b1]
    · exact absurd ((hc r2 (by omega) b2).1 (a2 r2 b1 b2)) b3
  · rcases h2 with ⟨b1, b2⟩ | ⟨b1, b2, b3, b4⟩
    · exact absurd ((hc r1 (by omega) a2).2 (b2 r1 a1 a2)) a3
    · by_cases h : r1 < r2
      · exact absurd ((hc r1 (by omega) a2).2 (b4 r1 a1 h)) a3
      · by_cases h' : r2 < r1
        · exact absurd ((hc r2 (by omega) b2).1 (a4 r2 b1 h')) b3
        · omega

set_option maxHeartbeats 4000000 in
set_option maxRecDepth 100000 in
theorem ct_X5_addHindrance (l : Launch) (g : sv_G) (A : Nat → Prop) (ty : Nat → Nat) (σ : Nat → Nat → Int) (hok : sv_ok ty σ) (hTA : ∀ q, ty q ≠ 0 → A q) (hI : sv_inv sp_1 ty σ) (b : Nat) (k_b : ty b = 39) (v : Int) (h_v : (-2147483648) ≤ v ∧ v ≤ 2147483647) (w : Int) (h_w : (-2147483648) ≤ w ∧ w ≤ 1440) : sv_M l yX5_addHindrance cX5_addHindrance 3 none { frames := 0, cells := 0, slots := 0, locals := 0 } g A ty σ [sv_r b, sv_i v, sv_i w] (fun r σ' => (r = []) ∧ sv_inv sp_1 ty σ' ∧ sv_ofx [] [39] ty σ σ' ∧ zh σ σ' b v w) := by
  refine sv_enter (by decide) (Nat.le_of_ble_eq_true rfl) ?_
  intro p e s m args below meth c C hr
  have C : sv_C g A RX5 cX5_addHindrance 3 p s m args meth c := C
  have hr : meth.sig.returnType = none := hr
  have hF : sv_ofx [] [39] ty σ σ := sv_ofx.rf
  refine sv_same (st2 := []) (lv2 := [(0, sv_r b), (1, sv_i v), (2, sv_i w)]) rfl rfl ?_
  refine sv_go C.1 C.2.1 [(.iload_n 1, 1)] (pc' := 1) (by decide +kernel) rfl (lv' := [(0, sv_r b), (1, sv_i v), (2, sv_i w)]) (st' := [sv_i v]) rfl ?_
  refine sv_if C.1 C.2.1 (cnd := .lt) (off := 32) (tgt := 33) (by decide +kernel) (by decide) ⟨by omega, by omega⟩ (fun (h1 : v < 0) => ?_) (fun (h1 : ¬ (v < 0)) => ?_)
  · exact sv_vret C hr (by decide +kernel) hok (⟨rfl, hI, hF, ⟨fun h => by exfalso; omega, fun _ _ => rfl⟩⟩)
  · refine sv_go C.1 C.2.1 [(.iload_n 1, 1), (.iload_n 2, 1)] (pc' := 6) (by decide +kernel) rfl (lv' := [(0, sv_r b), (1, sv_i v), (2, sv_i w)]) (st' := [sv_i w, sv_i v]) rfl ?_
    refine sv_icmp C.1 C.2.1 (cnd := .gt) (off := 27) (tgt := 33) (by decide +kernel) (by decide) ⟨by omega, by omega⟩ ⟨by omega, by omega⟩ (fun (h2 : w < v) => ?_) (fun (h2 : ¬ (w < v)) => ?_)
    · exact sv_vret C hr (by decide +kernel) hok (⟨rfl, hI, hF, ⟨fun h => by exfalso; omega, fun _ _ => rfl⟩⟩)
    · refine sv_go C.1 C.2.1 [(.iload_n 2, 1), (.iconst 1, 1), (.iadd, 1), (.aload_n 0, 1)] (pc' := 13) (by decide +kernel) rfl (lv' := [(0, sv_r b), (1, sv_i v), (2, sv_i w)]) (st' := [sv_r b, sv_i (w + 1)]) rfl ?_
      refine sv_al C (n := 1442) (t := .int) (Or.inl rfl) (by decide +kernel) (by rw [k_b]; rfl) ?_
      refine sv_same (st2 := [sv_i 1442, sv_i (w + 1)]) (lv2 := [(0, sv_r b), (1, sv_i v), (2, sv_i w)]) rfl rfl ?_
      refine sv_icmp_f C.1 C.2.1 (cnd := .ge) (off := 19) (tgt := 33) (by decide +kernel) (by decide) ⟨by omega, by omega⟩ ⟨by omega, by omega⟩ (show ¬ (1442 ≤ (w + 1)) by omega) ?_
      refine sv_go C.1 C.2.1 [(.aload_n 0, 1), (.iload_n 1, 1), (.dup2, 1)] (pc' := 20) (by decide +kernel) rfl (lv' := [(0, sv_r b), (1, sv_i v), (2, sv_i w)]) (st' := [sv_i v, sv_r b, sv_i v, sv_r b]) rfl ?_
      refine sv_ia C (n := 1442) (by decide +kernel) (by rw [k_b]; rfl) (by decide) (by omega) (by omega) ?_
      obtain ⟨v3, ev3, hv3⟩ := sv_rde hok (a := b) (k := (v : Int).toNat) (n := 1442) (by rw [k_b]; rfl) (by omega)
      rw [ev3]
      refine sv_go C.1 C.2.1 [(.iconst 1, 1), (.iadd, 1)] (pc' := 23) (by decide +kernel) rfl (lv' := [(0, sv_r b), (1, sv_i v), (2, sv_i w)]) (st' := [sv_i (v3 + 1), sv_i v, sv_r b]) rfl ?_
      obtain ⟨w4, hw4, ew4⟩ := sv_wr (v3 + 1)
      refine sv_sameD (st2 := [sv_i w4, sv_i v, sv_r b]) (lv2 := [(0, sv_r b), (1, sv_i v), (2, sv_i w)]) (by simp only [List.map_cons, List.map_nil, sv_den_i, ew4]) rfl ?_
      refine sv_is C (n := 1442) (by decide +kernel) (by rw [k_b]; rfl) (by decide) (by omega) (by omega) ⟨by omega, by omega⟩ (hTA _ (by rw [k_b]; decide)) hok (fun hok5 => ?_)
      have hI7 := hI.up (a := b) (k := (v : Int).toNat) (z := w4) (by rw [k_b]; exact trivial)
      have hF8 := hF.up (a := b) (k := (v : Int).toNat) (z := w4) (Or.inl (by rw [k_b]; decide))
      generalize eσ6 : sv_up σ b (v : Int).toNat w4 = σ6 at hok5 hI7 hF8 ⊢
      have t10 : σ6 b (v : Int).toNat = w4 := by rw [← eσ6]; exact sv_up_s _ _ _ _
      refine sv_go C.1 C.2.1 [(.aload_n 0, 1), (.iload_n 2, 1), (.iconst 1, 1), (.iadd, 1), (.dup2, 1)] (pc' := 29) (by decide +kernel) rfl (lv' := [(0, sv_r b), (1, sv_i v), (2, sv_i w)]) (st' := [sv_i (w + 1), sv_r b, sv_i (w + 1), sv_r b]) rfl ?_
      refine sv_ia C (n := 1442) (by decide +kernel) (by rw [k_b]; rfl) (by decide) (by omega) (by omega) ?_
      obtain ⟨v11, ev11, hv11⟩ := sv_rde hok5 (a := b) (k := (w + 1 : Int).toNat) (n := 1442) (by rw [k_b]; rfl) (by omega)
      rw [ev11]
      refine sv_go C.1 C.2.1 [(.iconst 1, 1), (.isub, 1)] (pc' := 32) (by decide +kernel) rfl (lv' := [(0, sv_r b), (1, sv_i v), (2, sv_i w)]) (st' := [sv_i (v11 - 1), sv_i (w + 1), sv_r b]) rfl ?_
      obtain ⟨w12, hw12, ew12⟩ := sv_wr (v11 - 1)
      refine sv_sameD (st2 := [sv_i w12, sv_i (w + 1), sv_r b]) (lv2 := [(0, sv_r b), (1, sv_i v), (2, sv_i w)]) (by simp only [List.map_cons, List.map_nil, sv_den_i, ew12]) rfl ?_
      refine sv_is C (n := 1442) (by decide +kernel) (by rw [k_b]; rfl) (by decide) (by omega) (by omega) ⟨by omega, by omega⟩ (hTA _ (by rw [k_b]; decide)) hok5 (fun hok13 => ?_)
      have hI15 := hI7.up (a := b) (k := (w + 1 : Int).toNat) (z := w12) (by rw [k_b]; exact trivial)
      have hF16 := hF8.up (a := b) (k := (w + 1 : Int).toNat) (z := w12) (Or.inl (by rw [k_b]; decide))
      generalize eσ14 : sv_up σ6 b (w + 1 : Int).toNat w12 = σ14 at hok13 hI15 hF16 ⊢
      have t19 : σ14 b (w + 1 : Int).toNat = w12 := by rw [← eσ14]; exact sv_up_s _ _ _ _
      exact sv_vret C hr (by decide +kernel) hok13 (⟨rfl, hI15, hF16, ⟨fun _ => zh_up eσ6 eσ14 ev3 ev11 (zw_eq hw4 ew4) (zw_eq hw12 ew12) (by omega), fun h => by exfalso; omega⟩⟩)

def zfr (σ : Nat → Nat → Int) (yB zT : Int) (yr qr s t : Nat) : Int := zw (yB + σ yr (t / 2) - zw (σ qr ((s + 1) / 2) + zT))
def ztl (σ : Nat → Nat → Int) (yB yT : Int) (yr qr s t : Nat) : Int := zw (yB + zw (σ yr ((t + 1) / 2) + yT) - σ qr (s / 2))
def zst (cf cg : Nat → Int) (F T : Nat → Nat → Int) (Pr : Nat → Nat → Prop) (m : Int) : Prop := ∃ s t, Pr s t ∧ (cf (s / 2) = cg ((t + 1) / 2) ∧ cf ((s + 1) / 2) = cg (t / 2)) ∧ F s t ≤ m ∧ m ≤ T s t
theorem zcr_i {cf cg : Nat → Int} {x y : Int} (hx : 0 ≤ x) (hy : 0 ≤ y) : (cf (x.toNat / 2) = cg ((y.toNat + 1) / 2) ∧ cf ((x.toNat + 1) / 2) = cg (y.toNat / 2)) ↔ (cf (x / 2).toNat = cg ((y + 1) / 2).toNat ∧ cf ((x + 1) / 2).toNat = cg (y / 2).toNat) := by
  rw [show x.toNat / 2 = (x / 2).toNat by omega, show (x.toNat + 1) / 2 = ((x + 1) / 2).toNat by omega, show y.toNat / 2 = (y / 2).toNat by omega, show (y.toNat + 1) / 2 = ((y + 1) / 2).toNat by omega]
theorem zI_cg {σ : Nat → Nat → Int} {qh : Nat} {cv : Int → Prop} {cf cg : Nat → Int} {F T : Nat → Nat → Int} {Pr Pr' : Nat → Nat → Prop} {b b' : Int} (hn : ∀ s t, Pr' s t ↔ Pr s t) (hb : b ≤ b') (h : zG σ qh (fun m => cv m ∨ zst cf cg F T Pr m) b) : zG σ qh (fun m => cv m ∨ zst cf cg F T Pr' m) b' :=
  zG_cg h hb (fun m _ _ => or_congr Iff.rfl ⟨fun ⟨s, t, h1, h2⟩ => ⟨s, t, (hn s t).1 h1, h2⟩, fun ⟨s, t, h1, h2⟩ => ⟨s, t, (hn s t).2 h1, h2⟩⟩)
theorem zI_0 {σ : Nat → Nat → Int} {qh : Nat} {cv : Int → Prop} {cf cg : Nat → Int} {F T : Nat → Nat → Int} {NA NB b b' : Int} (hb : b ≤ b') (h : zG σ qh cv b) : zG σ qh (fun m => cv m ∨ zst cf cg F T (mP NA NB 0 0) m) b' :=
  zG_cg h hb (fun m _ _ => ⟨fun q => q.elim id (fun ⟨s, t, h1, _⟩ => by unfold mP at h1; omega), Or.inl⟩)
theorem zI_skip {σ : Nat → Nat → Int} {qh : Nat} {cv : Int → Prop} {cf cg : Nat → Int} {F T : Nat → Nat → Int} {Pr Pr' : Nat → Nat → Prop} {b b' : Int} {S U : Nat} (hn : ∀ s t, Pr' s t ↔ Pr s t ∨ (s = S ∧ t = U)) (hb : b ≤ b') (hc : ¬ (cf (S / 2) = cg ((U + 1) / 2) ∧ cf ((S + 1) / 2) = cg (U / 2))) (h : zG σ qh (fun m => cv m ∨ zst cf cg F T Pr m) b) : zG σ qh (fun m => cv m ∨ zst cf cg F T Pr' m) b' :=
  zG_cg h hb (fun m _ _ => or_congr Iff.rfl ⟨fun ⟨s, t, h1, h2⟩ => by
    rcases (hn s t).1 h1 with h1 | ⟨rfl, rfl⟩
    · exact ⟨s, t, h1, h2⟩
    · exact absurd h2.1 hc, fun ⟨s, t, h1, h2⟩ => ⟨s, t, (hn s t).2 (Or.inl h1), h2⟩⟩)
theorem zI_new {σ σ' : Nat → Nat → Int} {qh : Nat} {cv : Int → Prop} {cf cg : Nat → Int} {F T : Nat → Nat → Int} {Pr Pr' : Nat → Nat → Prop} {b b' f u : Int} {S U : Nat} (hn : ∀ s t, Pr' s t ↔ Pr s t ∨ (s = S ∧ t = U)) (hb : b + 1 ≤ b') (hc : cf (S / 2) = cg ((U + 1) / 2) ∧ cf ((S + 1) / 2) = cg (U / 2)) (hz : zh σ σ' qh (mx 0 f) (mn 1440 u)) (ef : f = F S U) (eu : u = T S U) (h : zG σ qh (fun m => cv m ∨ zst cf cg F T Pr m) b) : zG σ' qh (fun m => cv m ∨ zst cf cg F T Pr' m) b' := by
  refine zG_cg (zG_step h hz) hb (fun m _ _ => ⟨fun q => ?_, fun q => ?_⟩)
  · rcases q with q | ⟨s, t, h1, h2⟩
    · exact Or.inl (Or.inl q)
    · rcases (hn s t).1 h1 with h1 | ⟨rfl, rfl⟩
      · exact Or.inl (Or.inr ⟨s, t, h1, h2⟩)
      · exact Or.inr ⟨by rw [ef]; exact h2.2.1, by rw [eu]; exact h2.2.2⟩
  · rcases q with (q | ⟨s, t, h1, h2⟩) | q
    · exact Or.inl q
    · exact Or.inr ⟨s, t, (hn s t).2 (Or.inl h1), h2⟩
    · exact Or.inr ⟨S, U, (hn S U).2 (Or.inr ⟨rfl, rfl⟩), hc, by rw [← ef]; exact q.1, by rw [← eu]; exact q.2⟩

set_option maxHeartbeats 4000000 in
set_option maxRecDepth 100000 in
theorem ct_X5_addHindrances (l : Launch) (g : sv_G) (A : Nat → Prop) (ty : Nat → Nat) (σ : Nat → Nat → Int) (hok : sv_ok ty σ) (hTA : ∀ q, ty q ≠ 0 → A q) (hI : sv_inv sp_1 ty σ) (a : Nat) (k_a : ty a = 9) (b : Nat) (k_b : ty b = 9) (hq : Nat) (k_hq : ty hq = 39) (zz : Int) (h_zz : 0 ≤ zz ∧ zz ≤ 12) (zB : Int) (h_zB : 0 ≤ zB ∧ zB ≤ 1440) (qc : Nat) (k_qc : ty qc = 40) (qr : Nat) (k_qr : ty qr = 41) (zT : Int) (h_zT : 0 ≤ zT ∧ zT ≤ 30) (yz : Int) (h_yz : 0 ≤ yz ∧ yz ≤ 12) (yB : Int) (h_yB : 0 ≤ yB ∧ yB ≤ 1440) (yc : Nat) (k_yc : ty yc = 40) (yr : Nat) (k_yr : ty yr = 41) (yT : Int) (h_yT : 0 ≤ yT ∧ yT ≤ 30) (ea0 : σ a 0 = zz) (ea1 : σ a 1 = zB) (ea2 : σ a 2 = (qc : Int) + 1) (ea3 : σ a 3 = (qr : Int) + 1) (ea4 : σ a 4 = zT) (eb0 : σ b 0 = yz) (eb1 : σ b 1 = yB) (eb2 : σ b 2 = (yc : Int) + 1) (eb3 : σ b 3 = (yr : Int) + 1) (eb4 : σ b 4 = yT) : sv_M l yX5_addHindrances cX5_addHindrances 7 none { frames := 1, cells := 0, slots := 0, locals := 23 } g A ty σ [sv_r a, sv_r b, sv_r hq] (fun r σ' => (r = []) ∧ sv_inv sp_1 ty σ' ∧ sv_ofx [] [39] ty σ σ' ∧ ∀ (cv : Int → Prop) (bd : Int), zG σ hq cv bd → zG σ' hq (fun m => cv m ∨ zst (σ qc) (σ yc) (zfr σ yB zT yr qr) (ztl σ yB yT yr qr) (mV (2 * zz - 1) (2 * yz - 1)) m) (bd + 600)) := by
  refine sv_enter (by decide) (Nat.le_of_ble_eq_true rfl) ?_
  intro p e s m args below meth c C hr
  have C : sv_C g A RX5 cX5_addHindrances 7 p s m args meth c := C
  have hr : meth.sig.returnType = none := hr
  have hF : sv_ofx [] [39] ty σ σ := sv_ofx.rf
  refine sv_same (st2 := []) (lv2 := [(0, sv_r a), (1, sv_r b), (2, sv_r hq)]) rfl rfl ?_
  refine sv_go C.1 C.2.1 [(.iconst 0, 1), (.istore_n 3, 1)] (pc' := 2) (by decide +kernel) rfl (lv' := [(0, sv_r a), (1, sv_r b), (2, sv_r hq), (3, sv_i 0)]) (st' := []) rfl ?_
  have L3 : ∀ (n : Nat) (Xg1_l3 : Int) (σ2 : Nat → Nat → Int), (0 ≤ Xg1_l3 ∧ Xg1_l3 ≤ 23) → (sv_ok ty σ2) → (sv_inv sp_1 ty σ2) → (sv_ofx [] [39] ty σ σ2) → (σ2 a 0 = zz) → (σ2 a 1 = zB) → (σ2 a 2 = (qc : Int) + 1) → (σ2 a 3 = (qr : Int) + 1) → (σ2 a 4 = zT) → (σ2 b 0 = yz) → (σ2 b 1 = yB) → (σ2 b 2 = (yc : Int) + 1) → (σ2 b 3 = (yr : Int) + 1) → (σ2 b 4 = yT) → (∀ (cv : Int → Prop) (bd : Int), zG σ hq cv bd → zG σ2 hq (fun m => cv m ∨ zst (σ qc) (σ yc) (zfr σ yB zT yr qr) (ztl σ yB yT yr qr) (mP (2 * zz - 1) (2 * yz - 1) Xg1_l3 0) m) (bd + 25 * Xg1_l3 + 0)) → (23 - Xg1_l3) < (n : Int) → sv_E p l e { frames := 1, cells := 0, slots := 0, locals := 23 } s m args below meth c 7 g A ty (fun r σ' => (r = []) ∧ sv_inv sp_1 ty σ' ∧ sv_ofx [] [39] ty σ σ' ∧ ∀ (cv : Int → Prop) (bd : Int), zG σ hq cv bd → zG σ' hq (fun m => cv m ∨ zst (σ qc) (σ yc) (zfr σ yB zT yr qr) (ztl σ yB yT yr qr) (mV (2 * zz - 1) (2 * yz - 1)) m) (bd + 600)) σ2 2 [(0, sv_r a), (1, sv_r b), (2, sv_r hq), (3, sv_i Xg1_l3)] [] := by
    intro n
    induction n with
    | zero => intro Xg1_l3 σ2 hXg1_l3 okσ2 Iσ2 Fσ2 eσ2_0 eσ2_1 eσ2_2 eσ2_3 eσ2_4 eσ2_5 eσ2_6 eσ2_7 eσ2_8 eσ2_9 zo hmu; exact absurd hmu (by omega)
    | succ n ih4 =>
      intro Xg1_l3 σ2 hXg1_l3 okσ2 Iσ2 Fσ2 eσ2_0 eσ2_1 eσ2_2 eσ2_3 eσ2_4 eσ2_5 eσ2_6 eσ2_7 eσ2_8 eσ2_9 zo hmu
      refine sv_go C.1 C.2.1 [(.iload_n 3, 1), (.aload_n 0, 1)] (pc' := 4) (by decide +kernel) rfl (lv' := [(0, sv_r a), (1, sv_r b), (2, sv_r hq), (3, sv_i Xg1_l3)]) (st' := [sv_r a, sv_i Xg1_l3]) rfl ?_
      refine sv_cv C (index := 28) (k := 0) (rest := [sv_i Xg1_l3]) (ci := 4) (r := (RX5, TX5, 5)) (by decide +kernel) (sf_X5_stretches l g A ty σ2 okσ2 hTA Iσ2 a k_a) ⟨co_X5_stretches, in_X5, ⟨by decide, by decide, by decide +kernel⟩, Nat.le_of_ble_eq_true rfl, Nat.le_of_ble_eq_true rfl⟩ ml_X5_28 im_X5_stretches se_X5_stretches (by rw [k_a]; rfl) rfl rfl rfl (Nat.le_of_ble_eq_true rfl) ⟨Nat.zero_le _, Nat.zero_le _⟩ (fun r6 σ7 hpo5 hok8 => ?_)
      obtain ⟨rfl, ⟨vu9, rfl, hvu9, ivu9_0⟩⟩ := hpo5
      have hp10 := ivu9_0 (by omega) (by omega)
      refine sv_same (st2 := [sv_i vu9, sv_i Xg1_l3]) (lv2 := [(0, sv_r a), (1, sv_r b), (2, sv_r hq), (3, sv_i Xg1_l3)]) rfl rfl ?_
      refine sv_icmp C.1 C.2.1 (cnd := .ge) (off := 96) (tgt := 103) (by decide +kernel) (by decide) ⟨by omega, by omega⟩ ⟨by omega, by omega⟩ (fun (h11 : vu9 ≤ Xg1_l3) => ?_) (fun (h11 : ¬ (vu9 ≤ Xg1_l3)) => ?_)
      · exact sv_vret C hr (by decide +kernel) hok8 (⟨rfl, Iσ2, Fσ2, fun cv bd hg => zI_cg (mP_all (by omega)) (by omega) (zo cv bd hg)⟩)
      · refine sv_go C.1 C.2.1 [(.iload_n 3, 1), (.iconst 2, 1)] (pc' := 12) (by decide +kernel) rfl (lv' := [(0, sv_r a), (1, sv_r b), (2, sv_r hq), (3, sv_i Xg1_l3)]) (st' := [sv_i 2, sv_i Xg1_l3]) rfl ?_
        refine sv_iremP C.1 C.2.1 (by decide +kernel) ⟨by omega, by omega⟩ ⟨by omega, by omega⟩ ?_
        refine sv_go C.1 C.2.1 [(.istore 4, 2)] (pc' := 15) (by decide +kernel) rfl (lv' := [(0, sv_r a), (1, sv_r b), (2, sv_r hq), (3, sv_i Xg1_l3), (4, sv_i (Xg1_l3 % 2))]) (st' := []) rfl ?_
        have L14 : ∀ (n : Nat) (Xg12_l4 : Int) (σ13 : Nat → Nat → Int), (0 ≤ Xg12_l4 ∧ Xg12_l4 ≤ 24) → (sv_ok ty σ13) → (sv_inv sp_1 ty σ13) → (sv_ofx [] [39] ty σ σ13) → (σ13 a 0 = zz) → (σ13 a 1 = zB) → (σ13 a 2 = (qc : Int) + 1) → (σ13 a 3 = (qr : Int) + 1) → (σ13 a 4 = zT) → (σ13 b 0 = yz) → (σ13 b 1 = yB) → (σ13 b 2 = (yc : Int) + 1) → (σ13 b 3 = (yr : Int) + 1) → (σ13 b 4 = yT) → (∀ (cv : Int → Prop) (bd : Int), zG σ hq cv bd → zG σ13 hq (fun m => cv m ∨ zst (σ qc) (σ yc) (zfr σ yB zT yr qr) (ztl σ yB yT yr qr) (mP (2 * zz - 1) (2 * yz - 1) Xg1_l3 Xg12_l4) m) (bd + 25 * Xg1_l3 + Xg12_l4)) → (Xg12_l4 % 2 = Xg1_l3 % 2) → (24 - Xg12_l4) < (n : Int) → sv_E p l e { frames := 1, cells := 0, slots := 0, locals := 23 } s m args below meth c 7 g A ty (fun r σ' => (r = []) ∧ sv_inv sp_1 ty σ' ∧ sv_ofx [] [39] ty σ σ' ∧ ∀ (cv : Int → Prop) (bd : Int), zG σ hq cv bd → zG σ' hq (fun m => cv m ∨ zst (σ qc) (σ yc) (zfr σ yB zT yr qr) (ztl σ yB yT yr qr) (mV (2 * zz - 1) (2 * yz - 1)) m) (bd + 600)) σ13 15 [(0, sv_r a), (1, sv_r b), (2, sv_r hq), (3, sv_i Xg1_l3), (4, sv_i Xg12_l4)] [] := by
          intro n
          induction n with
          | zero => intro Xg12_l4 σ13 hXg12_l4 okσ13 Iσ13 Fσ13 eσ13_0 eσ13_1 eσ13_2 eσ13_3 eσ13_4 eσ13_5 eσ13_6 eσ13_7 eσ13_8 eσ13_9 zi zp hmu; exact absurd hmu (by omega)
          | succ n ih15 =>
            intro Xg12_l4 σ13 hXg12_l4 okσ13 Iσ13 Fσ13 eσ13_0 eσ13_1 eσ13_2 eσ13_3 eσ13_4 eσ13_5 eσ13_6 eσ13_7 eσ13_8 eσ13_9 zi zp hmu
            have rqc : ∀ j, σ13 qc j = σ qc j := fun j => Fσ13.atA k_qc (by decide) (by decide)
            have rqr : ∀ j, σ13 qr j = σ qr j := fun j => Fσ13.atA k_qr (by decide) (by decide)
            have ryc : ∀ j, σ13 yc j = σ yc j := fun j => Fσ13.atA k_yc (by decide) (by decide)
            have ryr : ∀ j, σ13 yr j = σ yr j := fun j => Fσ13.atA k_yr (by decide) (by decide)
            refine sv_go C.1 C.2.1 [(.iload 4, 2), (.aload_n 1, 1)] (pc' := 18) (by decide +kernel) rfl (lv' := [(0, sv_r a), (1, sv_r b), (2, sv_r hq), (3, sv_i Xg1_l3), (4, sv_i Xg12_l4)]) (st' := [sv_r b, sv_i Xg12_l4]) rfl ?_
            refine sv_cv C (index := 28) (k := 0) (rest := [sv_i Xg12_l4]) (ci := 4) (r := (RX5, TX5, 5)) (by decide +kernel) (sf_X5_stretches l g A ty σ13 okσ13 hTA Iσ13 b k_b) ⟨co_X5_stretches, in_X5, ⟨by decide, by decide, by decide +kernel⟩, Nat.le_of_ble_eq_true rfl, Nat.le_of_ble_eq_true rfl⟩ ml_X5_28 im_X5_stretches se_X5_stretches (by rw [k_b]; rfl) rfl rfl rfl (Nat.le_of_ble_eq_true rfl) ⟨Nat.zero_le _, Nat.zero_le _⟩ (fun r17 σ18 hpo16 hok19 => ?_)
            obtain ⟨rfl, ⟨vu20, rfl, hvu20, ivu20_0⟩⟩ := hpo16
            have hp21 := ivu20_0 (by omega) (by omega)
            refine sv_same (st2 := [sv_i vu20, sv_i Xg12_l4]) (lv2 := [(0, sv_r a), (1, sv_r b), (2, sv_r hq), (3, sv_i Xg1_l3), (4, sv_i Xg12_l4)]) rfl rfl ?_
            refine sv_icmp C.1 C.2.1 (cnd := .ge) (off := 76) (tgt := 97) (by decide +kernel) (by decide) ⟨by omega, by omega⟩ ⟨by omega, by omega⟩ (fun (h22 : vu20 ≤ Xg12_l4) => ?_) (fun (h22 : ¬ (vu20 ≤ Xg12_l4)) => ?_)
            · refine sv_go C.1 C.2.1 [(.iinc 3 1, 3)] (pc' := 100) (by decide +kernel) rfl (lv' := [(0, sv_r a), (1, sv_r b), (2, sv_r hq), (3, sv_i (Xg1_l3 + 1)), (4, sv_i Xg12_l4)]) (st' := []) rfl ?_
              refine sv_goto C.1 C.2.1 (off := (-98)) (tgt := 2) (by decide +kernel) (by decide) ?_
              refine sv_pick [0, 1, 2, 3] (lv2 := [(0, sv_r a), (1, sv_r b), (2, sv_r hq), (3, sv_i (Xg1_l3 + 1))]) rfl ?_
              exact ih4 (Xg1_l3 + 1) σ13 ⟨by omega, by omega⟩ hok19 Iσ13 Fσ13 eσ13_0 eσ13_1 eσ13_2 eσ13_3 eσ13_4 eσ13_5 eσ13_6 eσ13_7 eσ13_8 eσ13_9 (fun cv bd hg => zI_cg (mP_out (by omega)) (by omega) (zi cv bd hg)) (by omega)
            · refine sv_go C.1 C.2.1 [(.aload_n 0, 1), (.iload_n 3, 1), (.aload_n 1, 1), (.iload 4, 2)] (pc' := 29) (by decide +kernel) rfl (lv' := [(0, sv_r a), (1, sv_r b), (2, sv_r hq), (3, sv_i Xg1_l3), (4, sv_i Xg12_l4)]) (st' := [sv_i Xg12_l4, sv_r b, sv_i Xg1_l3, sv_r a]) rfl ?_
              refine sv_cv C (index := 39) (k := 3) (rest := []) (ci := 4) (r := (RX5, TX5, 5)) (by decide +kernel) (ct_X5_crosses l g A ty σ13 hok19 hTA Iσ13 a k_a (Xg1_l3) ⟨by omega, by omega⟩ b k_b (Xg12_l4) ⟨by omega, by omega⟩ qc k_qc yc k_yc eσ13_2 eσ13_7) ⟨co_X5_crosses, in_X5, ⟨by decide, by decide, by decide +kernel⟩, Nat.le_of_ble_eq_true rfl, Nat.le_of_ble_eq_true rfl⟩ ml_X5_39 im_X5_crosses se_X5_crosses (by rw [k_a]; rfl) rfl rfl rfl (Nat.le_of_ble_eq_true rfl) ⟨Nat.zero_le _, Nat.zero_le _⟩ (fun r24 σ25 hpo23 hok26 => ?_)
              obtain ⟨rfl, ⟨vu27, rfl, hvu27, ivu27_0, ivu27_1⟩⟩ := hpo23
              refine sv_same (st2 := [sv_i vu27]) (lv2 := [(0, sv_r a), (1, sv_r b), (2, sv_r hq), (3, sv_i Xg1_l3), (4, sv_i Xg12_l4)]) rfl rfl ?_
              have J31 : ∀  (σ30 : Nat → Nat → Int), (sv_ok ty σ30) → (sv_inv sp_1 ty σ30) → (sv_ofx [] [39] ty σ σ30) → (σ30 a 0 = zz) → (σ30 a 1 = zB) → (σ30 a 2 = (qc : Int) + 1) → (σ30 a 3 = (qr : Int) + 1) → (σ30 a 4 = zT) → (σ30 b 0 = yz) → (σ30 b 1 = yB) → (σ30 b 2 = (yc : Int) + 1) → (σ30 b 3 = (yr : Int) + 1) → (σ30 b 4 = yT) → (∀ (cv : Int → Prop) (bd : Int), zG σ hq cv bd → zG σ30 hq (fun m => cv m ∨ zst (σ qc) (σ yc) (zfr σ yB zT yr qr) (ztl σ yB yT yr qr) (mP (2 * zz - 1) (2 * yz - 1) Xg1_l3 (Xg12_l4 + 2)) m) (bd + 25 * Xg1_l3 + (Xg12_l4 + 2))) → sv_E p l e { frames := 1, cells := 0, slots := 0, locals := 23 } s m args below meth c 7 g A ty (fun r σ' => (r = []) ∧ sv_inv sp_1 ty σ' ∧ sv_ofx [] [39] ty σ σ' ∧ ∀ (cv : Int → Prop) (bd : Int), zG σ hq cv bd → zG σ' hq (fun m => cv m ∨ zst (σ qc) (σ yc) (zfr σ yB zT yr qr) (ztl σ yB yT yr qr) (mV (2 * zz - 1) (2 * yz - 1)) m) (bd + 600)) σ30 91 [(0, sv_r a), (1, sv_r b), (2, sv_r hq), (3, sv_i Xg1_l3), (4, sv_i Xg12_l4)] [] := by
                intro σ30 okσ30 Iσ30 Fσ30 eσ30_0 eσ30_1 eσ30_2 eσ30_3 eσ30_4 eσ30_5 eσ30_6 eσ30_7 eσ30_8 eσ30_9 zj
                refine sv_go C.1 C.2.1 [(.iinc 4 2, 3)] (pc' := 94) (by decide +kernel) rfl (lv' := [(0, sv_r a), (1, sv_r b), (2, sv_r hq), (3, sv_i Xg1_l3), (4, sv_i (Xg12_l4 + 2))]) (st' := []) rfl ?_
                refine sv_goto C.1 C.2.1 (off := (-79)) (tgt := 15) (by decide +kernel) (by decide) ?_
                exact ih15 (Xg12_l4 + 2) σ30 ⟨by omega, by omega⟩ okσ30 Iσ30 Fσ30 eσ30_0 eσ30_1 eσ30_2 eσ30_3 eσ30_4 eσ30_5 eσ30_6 eσ30_7 eσ30_8 eσ30_9 (fun cv bd hg => zj cv bd hg) (by omega) (by omega)
              refine sv_if C.1 C.2.1 (cnd := .eq) (off := 59) (tgt := 91) (by decide +kernel) (by decide) ⟨by omega, by omega⟩ (fun (h28 : vu27 = 0) => ?_) (fun (h28 : ¬ (vu27 = 0)) => ?_)
              · have hp32 := ivu27_1 (by omega) (by omega)
                exact J31 σ13 hok26 Iσ13 Fσ13 eσ13_0 eσ13_1 eσ13_2 eσ13_3 eσ13_4 eσ13_5 eσ13_6 eσ13_7 eσ13_8 eσ13_9 (fun cv bd hg => zI_skip (mP_two (by omega) (by omega) (by omega) (by omega) zp) (by omega) (fun q => by have hh := hp32; rw [rqc, ryc, rqc, ryc] at hh; exact hh ((zcr_i (by omega) (by omega)).1 q)) (zi cv bd hg))
              · have hp33 := ivu27_0 (by omega) (by omega)
                refine sv_go C.1 C.2.1 [(.aload_n 1, 1)] (pc' := 36) (by decide +kernel) rfl (lv' := [(0, sv_r a), (1, sv_r b), (2, sv_r hq), (3, sv_i Xg1_l3), (4, sv_i Xg12_l4)]) (st' := [sv_r b]) rfl ?_
                refine sv_gf C (index := 22) (ci := 4) (k := 1) (r := (RX5, TX5, 5)) (v := sv_i yB) (by decide +kernel) (by rw [k_b]; rfl) rfl (by decide) fl_X5_22 (congrArg sv_i eσ13_6) ?_
                refine sv_go C.1 C.2.1 [(.aload_n 1, 1), (.iload 4, 2)] (pc' := 42) (by decide +kernel) rfl (lv' := [(0, sv_r a), (1, sv_r b), (2, sv_r hq), (3, sv_i Xg1_l3), (4, sv_i Xg12_l4)]) (st' := [sv_i Xg12_l4, sv_r b, sv_i yB]) rfl ?_
                refine sv_cv C (index := 32) (k := 1) (rest := [sv_i yB]) (ci := 4) (r := (RX5, TX5, 5)) (by decide +kernel) (ct_X5_comes l g A ty σ13 hok26 hTA Iσ13 b k_b (Xg12_l4) ⟨by omega, by omega⟩ yr k_yr eσ13_8) ⟨co_X5_comes, in_X5, ⟨by decide, by decide, by decide +kernel⟩, Nat.le_of_ble_eq_true rfl, Nat.le_of_ble_eq_true rfl⟩ ml_X5_32 im_X5_comes se_X5_comes (by rw [k_b]; rfl) rfl rfl rfl (Nat.le_of_ble_eq_true rfl) ⟨Nat.zero_le _, Nat.zero_le _⟩ (fun r35 σ36 hpo34 hok37 => ?_)
                obtain ⟨rfl, ⟨vu38, rfl, hvu38, ivu38_0⟩⟩ := hpo34
                have hp39 := ivu38_0 (by omega) (by omega)
                refine sv_same (st2 := [sv_i vu38, sv_i yB]) (lv2 := [(0, sv_r a), (1, sv_r b), (2, sv_r hq), (3, sv_i Xg1_l3), (4, sv_i Xg12_l4)]) rfl rfl ?_
                refine sv_go C.1 C.2.1 [(.iadd, 1), (.aload_n 0, 1), (.iload_n 3, 1)] (pc' := 48) (by decide +kernel) rfl (lv' := [(0, sv_r a), (1, sv_r b), (2, sv_r hq), (3, sv_i Xg1_l3), (4, sv_i Xg12_l4)]) (st' := [sv_i Xg1_l3, sv_r a, sv_i (yB + vu38)]) rfl ?_
                refine sv_cv C (index := 53) (k := 1) (rest := [sv_i (yB + vu38)]) (ci := 4) (r := (RX5, TX5, 5)) (by decide +kernel) (ct_X5_leaves l g A ty σ13 hok37 hTA Iσ13 a k_a (Xg1_l3) ⟨by omega, by omega⟩ qr k_qr (zT) ⟨by omega, by omega⟩ eσ13_3 eσ13_4) ⟨co_X5_leaves, in_X5, ⟨by decide, by decide, by decide +kernel⟩, Nat.le_of_ble_eq_true rfl, Nat.le_of_ble_eq_true rfl⟩ ml_X5_53 im_X5_leaves se_X5_leaves (by rw [k_a]; rfl) rfl rfl rfl (Nat.le_of_ble_eq_true rfl) ⟨Nat.zero_le _, Nat.zero_le _⟩ (fun r41 σ42 hpo40 hok43 => ?_)
                obtain ⟨rfl, ⟨vu44, rfl, hvu44, ivu44_0⟩⟩ := hpo40
                have hp45 := ivu44_0 (by omega) (by omega)
                refine sv_same (st2 := [sv_i vu44, sv_i (yB + vu38)]) (lv2 := [(0, sv_r a), (1, sv_r b), (2, sv_r hq), (3, sv_i Xg1_l3), (4, sv_i Xg12_l4)]) rfl rfl ?_
                refine sv_go C.1 C.2.1 [(.isub, 1), (.istore 5, 2), (.aload_n 1, 1)] (pc' := 55) (by decide +kernel) rfl (lv' := [(0, sv_r a), (1, sv_r b), (2, sv_r hq), (3, sv_i Xg1_l3), (4, sv_i Xg12_l4), (5, sv_i ((yB + vu38) - vu44))]) (st' := [sv_r b]) rfl ?_
                refine sv_gf C (index := 22) (ci := 4) (k := 1) (r := (RX5, TX5, 5)) (v := sv_i yB) (by decide +kernel) (by rw [k_b]; rfl) rfl (by decide) fl_X5_22 (congrArg sv_i eσ13_6) ?_
                refine sv_go C.1 C.2.1 [(.aload_n 1, 1), (.iload 4, 2)] (pc' := 61) (by decide +kernel) rfl (lv' := [(0, sv_r a), (1, sv_r b), (2, sv_r hq), (3, sv_i Xg1_l3), (4, sv_i Xg12_l4), (5, sv_i ((yB + vu38) - vu44))]) (st' := [sv_i Xg12_l4, sv_r b, sv_i yB]) rfl ?_
                refine sv_cv C (index := 53) (k := 1) (rest := [sv_i yB]) (ci := 4) (r := (RX5, TX5, 5)) (by decide +kernel) (ct_X5_leaves l g A ty σ13 hok43 hTA Iσ13 b k_b (Xg12_l4) ⟨by omega, by omega⟩ yr k_yr (yT) ⟨by omega, by omega⟩ eσ13_8 eσ13_9) ⟨co_X5_leaves, in_X5, ⟨by decide, by decide, by decide +kernel⟩, Nat.le_of_ble_eq_true rfl, Nat.le_of_ble_eq_true rfl⟩ ml_X5_53 im_X5_leaves se_X5_leaves (by rw [k_b]; rfl) rfl rfl rfl (Nat.le_of_ble_eq_true rfl) ⟨Nat.zero_le _, Nat.zero_le _⟩ (fun r47 σ48 hpo46 hok49 => ?_)
                obtain ⟨rfl, ⟨vu50, rfl, hvu50, ivu50_0⟩⟩ := hpo46
                have hp51 := ivu50_0 (by omega) (by omega)
                refine sv_same (st2 := [sv_i vu50, sv_i yB]) (lv2 := [(0, sv_r a), (1, sv_r b), (2, sv_r hq), (3, sv_i Xg1_l3), (4, sv_i Xg12_l4), (5, sv_i ((yB + vu38) - vu44))]) rfl rfl ?_
                refine sv_go C.1 C.2.1 [(.iadd, 1), (.aload_n 0, 1), (.iload_n 3, 1)] (pc' := 67) (by decide +kernel) rfl (lv' := [(0, sv_r a), (1, sv_r b), (2, sv_r hq), (3, sv_i Xg1_l3), (4, sv_i Xg12_l4), (5, sv_i ((yB + vu38) - vu44))]) (st' := [sv_i Xg1_l3, sv_r a, sv_i (yB + vu50)]) rfl ?_
                refine sv_cv C (index := 32) (k := 1) (rest := [sv_i (yB + vu50)]) (ci := 4) (r := (RX5, TX5, 5)) (by decide +kernel) (ct_X5_comes l g A ty σ13 hok49 hTA Iσ13 a k_a (Xg1_l3) ⟨by omega, by omega⟩ qr k_qr eσ13_3) ⟨co_X5_comes, in_X5, ⟨by decide, by decide, by decide +kernel⟩, Nat.le_of_ble_eq_true rfl, Nat.le_of_ble_eq_true rfl⟩ ml_X5_32 im_X5_comes se_X5_comes (by rw [k_a]; rfl) rfl rfl rfl (Nat.le_of_ble_eq_true rfl) ⟨Nat.zero_le _, Nat.zero_le _⟩ (fun r53 σ54 hpo52 hok55 => ?_)
                obtain ⟨rfl, ⟨vu56, rfl, hvu56, ivu56_0⟩⟩ := hpo52
                have hp57 := ivu56_0 (by omega) (by omega)
                refine sv_same (st2 := [sv_i vu56, sv_i (yB + vu50)]) (lv2 := [(0, sv_r a), (1, sv_r b), (2, sv_r hq), (3, sv_i Xg1_l3), (4, sv_i Xg12_l4), (5, sv_i ((yB + vu38) - vu44))]) rfl rfl ?_
                refine sv_go C.1 C.2.1 [(.isub, 1), (.istore 6, 2), (.aload_n 2, 1), (.iconst 0, 1), (.iload 5, 2)] (pc' := 77) (by decide +kernel) rfl (lv' := [(0, sv_r a), (1, sv_r b), (2, sv_r hq), (3, sv_i Xg1_l3), (4, sv_i Xg12_l4), (5, sv_i ((yB + vu38) - vu44)), (6, sv_i ((yB + vu50) - vu56))]) (st' := [sv_i ((yB + vu38) - vu44), sv_i 0, sv_r hq]) rfl ?_
                obtain ⟨w58, hw58, ew58⟩ := sv_wr ((yB + vu38) - vu44)
                refine sv_sameD (st2 := [sv_i w58, sv_i 0, sv_r hq]) (lv2 := [(0, sv_r a), (1, sv_r b), (2, sv_r hq), (3, sv_i Xg1_l3), (4, sv_i Xg12_l4), (5, sv_i ((yB + vu38) - vu44)), (6, sv_i ((yB + vu50) - vu56))]) (by simp only [List.map_cons, List.map_nil, sv_den_i, ew58]) rfl ?_
                refine sv_max C (index := 47) (by decide +kernel) ml_X5_47 ⟨by omega, by omega⟩ ⟨by omega, by omega⟩ (Nat.le_of_ble_eq_true rfl) (Nat.le_of_ble_eq_true rfl) ⟨Nat.zero_le _, Nat.zero_le _⟩ ?_
                obtain ⟨mm59, hmm59⟩ : ∃ q : Int, q = (if (0 : Int) < w58 then w58 else 0) := ⟨_, rfl⟩
                refine sv_same (st2 := [sv_i mm59, sv_r hq]) (lv2 := [(0, sv_r a), (1, sv_r b), (2, sv_r hq), (3, sv_i Xg1_l3), (4, sv_i Xg12_l4), (5, sv_i ((yB + vu38) - vu44)), (6, sv_i ((yB + vu50) - vu56))]) (by rw [hmm59]) rfl ?_
                refine sv_go C.1 C.2.1 [(.sipush 1440, 3), (.iload 6, 2)] (pc' := 85) (by decide +kernel) rfl (lv' := [(0, sv_r a), (1, sv_r b), (2, sv_r hq), (3, sv_i Xg1_l3), (4, sv_i Xg12_l4), (5, sv_i ((yB + vu38) - vu44)), (6, sv_i ((yB + vu50) - vu56))]) (st' := [sv_i ((yB + vu50) - vu56), sv_i 1440, sv_i mm59, sv_r hq]) rfl ?_
                obtain ⟨w60, hw60, ew60⟩ := sv_wr ((yB + vu50) - vu56)
                refine sv_sameD (st2 := [sv_i w60, sv_i 1440, sv_i mm59, sv_r hq]) (lv2 := [(0, sv_r a), (1, sv_r b), (2, sv_r hq), (3, sv_i Xg1_l3), (4, sv_i Xg12_l4), (5, sv_i ((yB + vu38) - vu44)), (6, sv_i ((yB + vu50) - vu56))]) (by simp only [List.map_cons, List.map_nil, sv_den_i, ew60]) rfl ?_
                refine sv_min C (index := 56) (by decide +kernel) ml_X5_56 ⟨by omega, by omega⟩ ⟨by omega, by omega⟩ (Nat.le_of_ble_eq_true rfl) (Nat.le_of_ble_eq_true rfl) ⟨Nat.zero_le _, Nat.zero_le _⟩ ?_
                obtain ⟨mm61, hmm61⟩ : ∃ q : Int, q = (if (w60 : Int) < 1440 then w60 else 1440) := ⟨_, rfl⟩
                refine sv_same (st2 := [sv_i mm61, sv_i mm59, sv_r hq]) (lv2 := [(0, sv_r a), (1, sv_r b), (2, sv_r hq), (3, sv_i Xg1_l3), (4, sv_i Xg12_l4), (5, sv_i ((yB + vu38) - vu44)), (6, sv_i ((yB + vu50) - vu56))]) (by rw [hmm61]) rfl ?_
                refine sv_cs C (index := 59) (k := 3) (rest := []) (by decide +kernel) (ct_X5_addHindrance l g A ty σ13 hok55 hTA Iσ13 hq k_hq (mm59) ⟨by omega, by omega⟩ (mm61) ⟨by omega, by omega⟩) ⟨co_X5_addHindrance, in_X5, ⟨by decide, by decide, by decide +kernel⟩, Nat.le_of_ble_eq_true rfl, Nat.le_of_ble_eq_true rfl⟩ ml_X5_59 st_X5_addHindrance rfl rfl (Nat.le_of_ble_eq_true rfl) ⟨Nat.zero_le _, Nat.zero_le _⟩ (fun r63 σ64 hpo62 hok65 => ?_)
                obtain ⟨rfl, hIu66, hFu66, xu66⟩ := hpo62
                have hGu66 := Fσ13.tr hFu66 (by decide) (by decide)
                have t67 : σ64 a 0 = zz := (hFu66.at k_a (by decide) (by decide)).trans eσ13_0
                have t68 : σ64 a 1 = zB := (hFu66.at k_a (by decide) (by decide)).trans eσ13_1
                have t69 : σ64 a 2 = (qc : Int) + 1 := (hFu66.at k_a (by decide) (by decide)).trans eσ13_2
                have t70 : σ64 a 3 = (qr : Int) + 1 := (hFu66.at k_a (by decide) (by decide)).trans eσ13_3
                have t71 : σ64 a 4 = zT := (hFu66.at k_a (by decide) (by decide)).trans eσ13_4
                have t72 : σ64 b 0 = yz := (hFu66.at k_b (by decide) (by decide)).trans eσ13_5
                have t73 : σ64 b 1 = yB := (hFu66.at k_b (by decide) (by decide)).trans eσ13_6
                have t74 : σ64 b 2 = (yc : Int) + 1 := (hFu66.at k_b (by decide) (by decide)).trans eσ13_7
                have t75 : σ64 b 3 = (yr : Int) + 1 := (hFu66.at k_b (by decide) (by decide)).trans eσ13_8
                have t76 : σ64 b 4 = yT := (hFu66.at k_b (by decide) (by decide)).trans eσ13_9
                refine sv_same (st2 := []) (lv2 := [(0, sv_r a), (1, sv_r b), (2, sv_r hq), (3, sv_i Xg1_l3), (4, sv_i Xg12_l4), (5, sv_i ((yB + vu38) - vu44)), (6, sv_i ((yB + vu50) - vu56))]) rfl rfl ?_
                refine sv_pick [0, 1, 2, 3, 4] (lv2 := [(0, sv_r a), (1, sv_r b), (2, sv_r hq), (3, sv_i Xg1_l3), (4, sv_i Xg12_l4)]) rfl ?_
                exact J31 σ64 hok65 hIu66 hGu66 t67 t68 t69 t70 t71 t72 t73 t74 t75 t76 (fun cv bd hg => zI_new (mP_two (by omega) (by omega) (by omega) (by omega) zp) (by omega) ((zcr_i (by omega) (by omega)).2 (by have hh := hp33; rw [rqc, ryc, rqc, ryc] at hh; exact hh)) (show zh _ _ hq (mx 0 w58) (mn 1440 w60) by rw [← (show mm59 = mx 0 w58 from hmm59), ← (show mm61 = mn 1440 w60 from hmm61)]; exact xu66) ((zw_eq hw58 ew58).trans (by unfold zfr; rw [show Xg12_l4.toNat / 2 = (Xg12_l4 / 2).toNat by omega, show (Xg1_l3.toNat + 1) / 2 = ((Xg1_l3 + 1) / 2).toNat by omega, ← rqr, ← ryr, ← hp45, ← hp39])) ((zw_eq hw60 ew60).trans (by unfold ztl; rw [show (Xg12_l4.toNat + 1) / 2 = ((Xg12_l4 + 1) / 2).toNat by omega, show Xg1_l3.toNat / 2 = (Xg1_l3 / 2).toNat by omega, ← rqr, ← ryr, ← hp51, ← hp57])) (zi cv bd hg))
        exact L14 (((24 - (Xg1_l3 % 2) : Int)).toNat + 1) (Xg1_l3 % 2) σ2 ⟨by omega, by omega⟩ hok8 Iσ2 Fσ2 eσ2_0 eσ2_1 eσ2_2 eσ2_3 eσ2_4 eσ2_5 eσ2_6 eσ2_7 eσ2_8 eσ2_9 (fun cv bd hg => zI_cg (mP_in (by omega)) (by omega) (zo cv bd hg)) (by omega) (by omega)
  exact L3 (((23 - 0 : Int)).toNat + 1) 0 σ ⟨by omega, by omega⟩ hok hI hF ea0 ea1 ea2 ea3 ea4 eb0 eb1 eb2 eb3 eb4 (fun cv bd hg => zI_0 (by omega) hg) (by omega)

/-- what another procession covers, and what those below x cover -/
def zco (σ : Nat → Nat → Int) (bq P pc pr : Nat) (o m : Int) : Prop := ∃ Q yc yr : Nat, (σ bq o.toNat = (Q : Int) + 1 ∧ σ Q 2 = (yc : Int) + 1 ∧ σ Q 3 = (yr : Int) + 1) ∧ 2 ≤ σ Q 0 ∧ zst (σ pc) (σ yc) (zfr σ (σ Q 1) (σ P 4) yr pr) (ztl σ (σ Q 1) (σ Q 4) yr pr) (mV (2 * σ P 0 - 1) (2 * σ Q 0 - 1)) m
def zcO (σ : Nat → Nat → Int) (bq P pc pr : Nat) (v x m : Int) : Prop := ∃ o : Int, (0 ≤ o ∧ o < x ∧ o ≠ v) ∧ zco σ bq P pc pr o m
theorem zO_0 {σ τ : Nat → Nat → Int} {qh bq P pc pr : Nat} {v b : Int} (hb : 0 ≤ b) (h : ∀ j : Nat, j < 1442 → τ qh j = 0) : zG τ qh (zcO σ bq P pc pr v 0) b := zG_cg (zG_0 h) hb (fun m _ _ => ⟨fun ⟨o, h1, _⟩ => by omega, False.elim⟩)
theorem zO_skip {σ τ : Nat → Nat → Int} {qh bq P pc pr : Nat} {v x b b' : Int} (hx : 0 ≤ x) (h : zG τ qh (zcO σ bq P pc pr v x) b) (hb : b ≤ b') (hs : x = v ∨ ∀ Q : Nat, σ bq x.toNat = (Q : Int) + 1 → σ Q 0 < 2) : zG τ qh (zcO σ bq P pc pr v (x + 1)) b' := by
  refine zG_cg h hb (fun m _ _ => ⟨fun ⟨o, h1, h2⟩ => ?_, fun ⟨o, h1, h2⟩ => ⟨o, by omega, h2⟩⟩)
  by_cases e : o = x
  · subst e
    rcases hs with hs | hs
    · omega
    · obtain ⟨Q, _, _, q1, q2, _⟩ := h2
      have := hs Q q1.1
      omega
  · exact ⟨o, by omega, h2⟩
theorem zO_add {σ τ : Nat → Nat → Int} {qh bq P pc pr Q yc yr : Nat} {v x b b' : Int} (hx : 0 ≤ x) (hv : x ≠ v) (e1 : σ bq x.toNat = (Q : Int) + 1) (e2 : σ Q 2 = (yc : Int) + 1) (e3 : σ Q 3 = (yr : Int) + 1) (e0 : 2 ≤ σ Q 0) (h : zG τ qh (fun m => zcO σ bq P pc pr v x m ∨ zst (σ pc) (σ yc) (zfr σ (σ Q 1) (σ P 4) yr pr) (ztl σ (σ Q 1) (σ Q 4) yr pr) (mV (2 * σ P 0 - 1) (2 * σ Q 0 - 1)) m) b) (hb : b ≤ b') : zG τ qh (zcO σ bq P pc pr v (x + 1)) b' := by
  refine zG_cg h hb (fun m _ _ => ⟨fun ⟨o, h1, h2⟩ => ?_, fun q => ?_⟩)
  · by_cases e : o = x
    · subst e
      obtain ⟨Q', yc', yr', ⟨q1, q2, q3⟩, q4, q5⟩ := h2
      have t1 : Q' = Q := by omega
      subst t1
      have t2 : yc' = yc := by omega
      have t3 : yr' = yr := by omega
      subst t2; subst t3
      exact Or.inr q5
    · exact Or.inl ⟨o, by omega, h2⟩
  · rcases q with ⟨o, h1, h2⟩ | q
    · exact ⟨o, by omega, h2⟩
    · exact ⟨x, by omega, Q, yc, yr, ⟨e1, e2, e3⟩, e0, q⟩
theorem zfr_cg {σ τ : Nat → Nat → Int} {yB zT : Int} {yr qr : Nat} (h1 : τ yr = σ yr) (h2 : τ qr = σ qr) : zfr τ yB zT yr qr = zfr σ yB zT yr qr := by
  funext s t
  unfold zfr
  rw [h1, h2]
theorem ztl_cg {σ τ : Nat → Nat → Int} {yB yT : Int} {yr qr : Nat} (h1 : τ yr = σ yr) (h2 : τ qr = σ qr) : ztl τ yB yT yr qr = ztl σ yB yT yr qr := by
  funext s t
  unfold ztl
  rw [h1, h2]

/-- the sum up to m -/
def zGS (σ : Nat → Nat → Int) (qh : Nat) (cv : Int → Prop) (bd o m : Int) : Prop := ∃ G : Int → Int, (G (-1) = 0 ∧ (∀ j : Nat, j ≤ 1441 → σ qh j = zw (G (j : Int) - G ((j : Int) - 1))) ∧ ∀ m : Int, 0 ≤ m → m ≤ 1440 → (0 ≤ G m ∧ G m ≤ bd) ∧ (G m = 0 ↔ ¬ cv m)) ∧ o = G (m - 1)
theorem zGS_0 {σ : Nat → Nat → Int} {qh : Nat} {cv : Int → Prop} {bd : Int} (h : zG σ qh cv bd) : zGS σ qh cv bd 0 0 := by
  obtain ⟨G, h0, h1⟩ := h
  exact ⟨G, ⟨h0, h1⟩, h0.symm⟩
theorem zGS_s {σ : Nat → Nat → Int} {qh : Nat} {cv : Int → Prop} {bd o m v w : Int} (h : zGS σ qh cv bd o m) (hbd : bd ≤ 100000) (h0 : 0 ≤ m) (h1 : m ≤ 1440) (hv : σ qh m.toNat = v) (hw : w = zw (o + v)) : zGS σ qh cv bd w (m + 1) ∧ (w = 0 ↔ ¬ cv m) := by
  obtain ⟨G, ⟨g0, g1, g2⟩, e⟩ := h
  obtain ⟨⟨q1, q2⟩, q3⟩ := g2 m h0 h1
  have a := g1 m.toNat (by omega)
  rw [hv, show ((m.toNat : Nat) : Int) = m by omega] at a
  have b : w = G m := by
    rw [hw, a, e, zw_add2, show G (m - 1) + (G m - G (m - 1)) = G m by omega]
    exact zw_id ⟨by omega, by omega⟩
  exact ⟨⟨G, ⟨g0, g1, g2⟩, by rw [b, show m + 1 - 1 = m by omega]⟩, by rw [b]; exact q3⟩

set_option maxHeartbeats 4000000 in
set_option maxRecDepth 100000 in
theorem ct_X8_firstFree (l : Launch) (g : sv_G) (A : Nat → Prop) (ty : Nat → Nat) (σ : Nat → Nat → Int) (hok : sv_ok ty σ) (hTA : ∀ q, ty q ≠ 0 → A q) (hI : sv_inv sp_1 ty σ) (a : Nat) (k_a : ty a = 6) (v : Int) (h_v : 0 ≤ v ∧ v ≤ 11) (w : Int) (h_w : 0 ≤ w ∧ w ≤ 1440) (bq : Nat) (k_bq : ty bq = 37) (qh : Nat) (k_qh : ty qh = 39) (P : Nat) (k_P : ty P = 9) (pc : Nat) (k_pc : ty pc = 40) (pr : Nat) (k_pr : ty pr = 41) (et0 : σ a 0 = (bq : Int) + 1) (et3 : σ a 3 = (qh : Int) + 1) (eP : σ bq v.toNat = (P : Int) + 1) (eP2 : σ P 2 = (pc : Int) + 1) (eP3 : σ P 3 = (pr : Int) + 1) : sv_M l yX8_firstFree cX8_firstFree 5 (some .int) { frames := 2, cells := 0, slots := 0, locals := 49 } g A ty σ [sv_r a, sv_i v, sv_i w] (fun r σ' => (∃ rv : Int, r = [sv_i rv] ∧ ((-1) ≤ rv ∧ rv ≤ 1440) ∧ ((-2147483648) ≤ rv → rv ≤ 2147483647 → mF (zcO σ bq P pc pr v 12) w rv)) ∧ sv_inv sp_1 ty σ' ∧ sv_ofx [] [39] ty σ σ') := by
  refine sv_enter (by decide) (Nat.le_of_ble_eq_true rfl) ?_
  intro p e s m args below meth c C hr
  have C : sv_C g A RX8 cX8_firstFree 5 p s m args meth c := C
  have hr : meth.sig.returnType = (some .int) := hr
  have hF : sv_ofx [] [39] ty σ σ := sv_ofx.rf
  refine sv_same (st2 := []) (lv2 := [(0, sv_r a), (1, sv_i v), (2, sv_i w)]) rfl rfl ?_
  refine sv_go C.1 C.2.1 [(.aload_n 0, 1)] (pc' := 1) (by decide +kernel) rfl (lv' := [(0, sv_r a), (1, sv_i v), (2, sv_i w)]) (st' := [sv_r a]) rfl ?_
  refine sv_gf C (index := 21) (ci := 7) (k := 3) (r := (RX8, TX8, 4)) (v := sv_r qh) (by decide +kernel) (by rw [k_a]; rfl) rfl (by decide) fl_X8_21 (congrArg sv_a et3) ?_
  refine sv_go C.1 C.2.1 [(.iconst 0, 1)] (pc' := 5) (by decide +kernel) rfl (lv' := [(0, sv_r a), (1, sv_i v), (2, sv_i w)]) (st' := [sv_i 0, sv_r qh]) rfl ?_
  refine sv_cs C (index := 45) (k := 2) (rest := []) (by decide +kernel) (ct_fill l g A ty σ hok qh 1442 (by rw [k_qh]; rfl) (by decide) (hTA _ (by rw [k_qh]; decide)) (0) ⟨by omega, by omega⟩) ⟨co_J7_fill_53178, in_J7, ⟨by decide, by decide, by decide +kernel⟩, Nat.le_of_ble_eq_true rfl, Nat.le_of_ble_eq_true rfl⟩ ml_X8_45 st_J7_fill_53178 rfl rfl (Nat.le_of_ble_eq_true rfl) ⟨Nat.zero_le _, Nat.zero_le _⟩ (fun r2 σ3 hpo1 hok4 => ?_)
  obtain ⟨rfl, h1u5, h2u5, h3u5⟩ := hpo1
  have hIu5 := hI.fill (b := qh) (n := 1442) (v := 0) (fun k => by rw [k_qh]; exact trivial) h1u5 h2u5 h3u5
  have hGu5 := hF.fill (b := qh) (by rw [k_qh]; decide) h1u5
  have t6 : σ3 a 0 = (bq : Int) + 1 := (h1u5 a (sv_ne k_a k_qh (by decide)) 0).trans et0
  have t7 : σ3 a 3 = (qh : Int) + 1 := (h1u5 a (sv_ne k_a k_qh (by decide)) 3).trans et3
  have t8 : σ3 bq (v : Int).toNat = (P : Int) + 1 := (h1u5 bq (sv_ne k_bq k_qh (by decide)) (v : Int).toNat).trans eP
  have t9 : σ3 P 2 = (pc : Int) + 1 := (h1u5 P (sv_ne k_P k_qh (by decide)) 2).trans eP2
  have t10 : σ3 P 3 = (pr : Int) + 1 := (h1u5 P (sv_ne k_P k_qh (by decide)) 3).trans eP3
  refine sv_same (st2 := []) (lv2 := [(0, sv_r a), (1, sv_i v), (2, sv_i w)]) rfl rfl ?_
  refine sv_go C.1 C.2.1 [(.iconst 0, 1), (.istore_n 3, 1)] (pc' := 10) (by decide +kernel) rfl (lv' := [(0, sv_r a), (1, sv_i v), (2, sv_i w), (3, sv_i 0)]) (st' := []) rfl ?_
  have L13 : ∀ (n : Nat) (Xg11_l3 : Int) (σ12 : Nat → Nat → Int), (0 ≤ Xg11_l3 ∧ Xg11_l3 ≤ 12) → (sv_ok ty σ12) → (sv_inv sp_1 ty σ12) → (sv_ofx [] [39] ty σ σ12) → (σ12 a 0 = (bq : Int) + 1) → (σ12 a 3 = (qh : Int) + 1) → (σ12 bq (v : Int).toNat = (P : Int) + 1) → (σ12 P 2 = (pc : Int) + 1) → (σ12 P 3 = (pr : Int) + 1) → (zG σ12 qh (zcO σ bq P pc pr v Xg11_l3) (600 * Xg11_l3)) → (12 - Xg11_l3) < (n : Int) → sv_E p l e { frames := 2, cells := 0, slots := 0, locals := 49 } s m args below meth c 5 g A ty (fun r σ' => (∃ rv : Int, r = [sv_i rv] ∧ ((-1) ≤ rv ∧ rv ≤ 1440) ∧ ((-2147483648) ≤ rv → rv ≤ 2147483647 → mF (zcO σ bq P pc pr v 12) w rv)) ∧ sv_inv sp_1 ty σ' ∧ sv_ofx [] [39] ty σ σ') σ12 10 [(0, sv_r a), (1, sv_i v), (2, sv_i w), (3, sv_i Xg11_l3)] [] := by
    intro n
    induction n with
    | zero => intro Xg11_l3 σ12 hXg11_l3 okσ12 Iσ12 Fσ12 eσ12_0 eσ12_1 eσ12_2 eσ12_3 eσ12_4 zo hmu; exact absurd hmu (by omega)
    | succ n ih14 =>
      intro Xg11_l3 σ12 hXg11_l3 okσ12 Iσ12 Fσ12 eσ12_0 eσ12_1 eσ12_2 eσ12_3 eσ12_4 zo hmu
      have rbq : ∀ j, σ12 bq j = σ bq j := fun j => Fσ12.atA k_bq (by decide) (by decide)
      have r9 : ∀ (q j : Nat), ty q = 9 → σ12 q j = σ q j := fun q j hq => Fσ12.atA hq (by decide) (by decide)
      have r40 : ∀ q : Nat, ty q = 40 → σ12 q = σ q := fun q hq => funext fun j => Fσ12.atA hq (by decide) (by decide)
      have r41 : ∀ q : Nat, ty q = 41 → σ12 q = σ q := fun q hq => funext fun j => Fσ12.atA hq (by decide) (by decide)
      refine sv_go C.1 C.2.1 [(.iload_n 3, 1), (.bipush 12, 2)] (pc' := 13) (by decide +kernel) rfl (lv' := [(0, sv_r a), (1, sv_i v), (2, sv_i w), (3, sv_i Xg11_l3)]) (st' := [sv_i 12, sv_i Xg11_l3]) rfl ?_
      refine sv_icmp C.1 C.2.1 (cnd := .ge) (off := 46) (tgt := 59) (by decide +kernel) (by decide) ⟨by omega, by omega⟩ ⟨by omega, by omega⟩ (fun (h15 : 12 ≤ Xg11_l3) => ?_) (fun (h15 : ¬ (12 ≤ Xg11_l3)) => ?_)
      · refine sv_go C.1 C.2.1 [(.iconst 0, 1), (.istore_n 3, 1), (.iconst 0, 1), (.istore 4, 2)] (pc' := 64) (by decide +kernel) rfl (lv' := [(0, sv_r a), (1, sv_i v), (2, sv_i w), (3, sv_i 0), (4, sv_i 0)]) (st' := []) rfl ?_
        have L17 : ∀ (n : Nat) (Xg16_l3 : Int) (Xg16_l4 : Int), ((-2147483648) ≤ Xg16_l3 ∧ Xg16_l3 ≤ 2147483647) → (0 ≤ Xg16_l4 ∧ Xg16_l4 ≤ 1441) → (zGS σ12 qh (zcO σ bq P pc pr v 12) 7200 Xg16_l3 Xg16_l4) → (∀ m : Int, w ≤ m → m < Xg16_l4 → zcO σ bq P pc pr v 12 m) → (1441 - Xg16_l4) < (n : Int) → sv_E p l e { frames := 2, cells := 0, slots := 0, locals := 49 } s m args below meth c 5 g A ty (fun r σ' => (∃ rv : Int, r = [sv_i rv] ∧ ((-1) ≤ rv ∧ rv ≤ 1440) ∧ ((-2147483648) ≤ rv → rv ≤ 2147483647 → mF (zcO σ bq P pc pr v 12) w rv)) ∧ sv_inv sp_1 ty σ' ∧ sv_ofx [] [39] ty σ σ') σ12 64 [(0, sv_r a), (2, sv_i w), (3, sv_i Xg16_l3), (4, sv_i Xg16_l4)] [] := by
          intro n
          induction n with
          | zero => intro Xg16_l3 Xg16_l4 hXg16_l3 hXg16_l4 zs zn_ hmu; exact absurd hmu (by omega)
          | succ n ih18 =>
            intro Xg16_l3 Xg16_l4 hXg16_l3 hXg16_l4 zs zn_ hmu
            refine sv_go C.1 C.2.1 [(.iload 4, 2), (.sipush 1440, 3)] (pc' := 69) (by decide +kernel) rfl (lv' := [(0, sv_r a), (2, sv_i w), (3, sv_i Xg16_l3), (4, sv_i Xg16_l4)]) (st' := [sv_i 1440, sv_i Xg16_l4]) rfl ?_
            refine sv_icmp C.1 C.2.1 (cnd := .gt) (off := 32) (tgt := 101) (by decide +kernel) (by decide) ⟨by omega, by omega⟩ ⟨by omega, by omega⟩ (fun (h19 : 1440 < Xg16_l4) => ?_) (fun (h19 : ¬ (1440 < Xg16_l4)) => ?_)
            · refine sv_go C.1 C.2.1 [(.iconst (-1), 1)] (pc' := 102) (by decide +kernel) rfl (lv' := [(0, sv_r a), (2, sv_i w), (3, sv_i Xg16_l3), (4, sv_i Xg16_l4)]) (st' := [sv_i ((-1))]) rfl ?_
              exact sv_iret C hr (by decide +kernel) okσ12 (⟨⟨_, rfl, ⟨by omega, by omega⟩, fun _ _ => (Or.inl ⟨rfl, fun m h1 h2 => zn_ m h1 (by omega)⟩)⟩, Iσ12, Fσ12⟩)
            · refine sv_go C.1 C.2.1 [(.iload_n 3, 1), (.aload_n 0, 1)] (pc' := 74) (by decide +kernel) rfl (lv' := [(0, sv_r a), (2, sv_i w), (3, sv_i Xg16_l3), (4, sv_i Xg16_l4)]) (st' := [sv_r a, sv_i Xg16_l3]) rfl ?_
              refine sv_gf C (index := 21) (ci := 7) (k := 3) (r := (RX8, TX8, 4)) (v := sv_r qh) (by decide +kernel) (by rw [k_a]; rfl) rfl (by decide) fl_X8_21 (congrArg sv_a eσ12_1) ?_
              refine sv_go C.1 C.2.1 [(.iload 4, 2)] (pc' := 79) (by decide +kernel) rfl (lv' := [(0, sv_r a), (2, sv_i w), (3, sv_i Xg16_l3), (4, sv_i Xg16_l4)]) (st' := [sv_i Xg16_l4, sv_r qh, sv_i Xg16_l3]) rfl ?_
              refine sv_ia C (n := 1442) (by decide +kernel) (by rw [k_qh]; rfl) (by decide) (by omega) (by omega) ?_
              obtain ⟨v20, ev20, hv20⟩ := sv_rde okσ12 (a := qh) (k := (Xg16_l4 : Int).toNat) (n := 1442) (by rw [k_qh]; rfl) (by omega)
              rw [ev20]
              refine sv_go C.1 C.2.1 [(.iadd, 1), (.istore_n 3, 1), (.iload 4, 2), (.iload_n 2, 1)] (pc' := 85) (by decide +kernel) rfl (lv' := [(0, sv_r a), (2, sv_i w), (3, sv_i (Xg16_l3 + v20)), (4, sv_i Xg16_l4)]) (st' := [sv_i w, sv_i Xg16_l4]) rfl ?_
              have hst := zGS_s zs (by omega) (by omega) (by omega) ev20 rfl
              refine sv_icmp C.1 C.2.1 (cnd := .lt) (off := 10) (tgt := 95) (by decide +kernel) (by decide) ⟨by omega, by omega⟩ ⟨by omega, by omega⟩ (fun (h21 : Xg16_l4 < w) => ?_) (fun (h21 : ¬ (Xg16_l4 < w)) => ?_)
              · refine sv_go C.1 C.2.1 [(.iinc 4 1, 3)] (pc' := 98) (by decide +kernel) rfl (lv' := [(0, sv_r a), (2, sv_i w), (3, sv_i (Xg16_l3 + v20)), (4, sv_i (Xg16_l4 + 1))]) (st' := []) rfl ?_
                refine sv_goto C.1 C.2.1 (off := (-34)) (tgt := 64) (by decide +kernel) (by decide) ?_
                obtain ⟨w22, hw22, ew22⟩ := sv_wr (Xg16_l3 + v20)
                refine sv_sameD (st2 := []) (lv2 := [(0, sv_r a), (2, sv_i w), (3, sv_i w22), (4, sv_i (Xg16_l4 + 1))]) (by simp only [List.map_cons, List.map_nil, sv_den_i, ew22]) (by simp only [sv_lm, List.map_cons, List.map_nil, sv_den_i, ew22]) ?_
                exact ih18 w22 (Xg16_l4 + 1) ⟨by omega, by omega⟩ ⟨by omega, by omega⟩ (by rw [zw_eq hw22 ew22]; exact hst.1) (fun m h1 h2 => if e : m = Xg16_l4 then (by subst e; exact Classical.byContradiction (fun q => by have q2 := hst.2.2 q; omega)) else zn_ m h1 (by omega)) (by omega)
              · refine sv_go C.1 C.2.1 [(.iload_n 3, 1)] (pc' := 89) (by decide +kernel) rfl (lv' := [(0, sv_r a), (2, sv_i w), (3, sv_i (Xg16_l3 + v20)), (4, sv_i Xg16_l4)]) (st' := [sv_i (Xg16_l3 + v20)]) rfl ?_
                obtain ⟨w23, hw23, ew23⟩ := sv_wr (Xg16_l3 + v20)
                refine sv_sameD (st2 := [sv_i w23]) (lv2 := [(0, sv_r a), (2, sv_i w), (3, sv_i (Xg16_l3 + v20)), (4, sv_i Xg16_l4)]) (by simp only [List.map_cons, List.map_nil, sv_den_i, ew23]) rfl ?_
                refine sv_if C.1 C.2.1 (cnd := .ne) (off := 6) (tgt := 95) (by decide +kernel) (by decide) ⟨by omega, by omega⟩ (fun (h24 : w23 ≠ 0) => ?_) (fun (h24 : ¬ (w23 ≠ 0)) => ?_)
                · refine sv_go C.1 C.2.1 [(.iinc 4 1, 3)] (pc' := 98) (by decide +kernel) rfl (lv' := [(0, sv_r a), (2, sv_i w), (3, sv_i (Xg16_l3 + v20)), (4, sv_i (Xg16_l4 + 1))]) (st' := []) rfl ?_
                  refine sv_goto C.1 C.2.1 (off := (-34)) (tgt := 64) (by decide +kernel) (by decide) ?_
                  obtain ⟨w25, hw25, ew25⟩ := sv_wr (Xg16_l3 + v20)
                  refine sv_sameD (st2 := []) (lv2 := [(0, sv_r a), (2, sv_i w), (3, sv_i w25), (4, sv_i (Xg16_l4 + 1))]) (by simp only [List.map_cons, List.map_nil, sv_den_i, ew25]) (by simp only [sv_lm, List.map_cons, List.map_nil, sv_den_i, ew25]) ?_
                  exact ih18 w25 (Xg16_l4 + 1) ⟨by omega, by omega⟩ ⟨by omega, by omega⟩ (by rw [zw_eq hw25 ew25]; exact hst.1) (fun m h1 h2 => if e : m = Xg16_l4 then (by subst e; exact Classical.byContradiction (fun q => by have q2 := hst.2.2 q; have hw := zw_eq hw23 ew23; rw [← hw] at q2; omega)) else zn_ m h1 (by omega)) (by omega)
                · refine sv_go C.1 C.2.1 [(.iload 4, 2)] (pc' := 94) (by decide +kernel) rfl (lv' := [(0, sv_r a), (2, sv_i w), (3, sv_i (Xg16_l3 + v20)), (4, sv_i Xg16_l4)]) (st' := [sv_i Xg16_l4]) rfl ?_
                  exact sv_iret C hr (by decide +kernel) okσ12 (⟨⟨_, rfl, ⟨by omega, by omega⟩, fun _ _ => (Or.inr ⟨by omega, by omega, hst.2.1 (by rw [← zw_eq hw23 ew23]; omega), fun m h1 h2 => zn_ m h1 h2⟩)⟩, Iσ12, Fσ12⟩)
        refine sv_pick [0, 2, 3, 4] (lv2 := [(0, sv_r a), (2, sv_i w), (3, sv_i 0), (4, sv_i 0)]) rfl ?_
        exact L17 (((1441 - 0 : Int)).toNat + 1) 0 0 ⟨by omega, by omega⟩ ⟨by omega, by omega⟩ (zGS_0 (zG_cg zo (by omega) (fun m _ _ => ⟨fun ⟨o, h1, h2⟩ => ⟨o, by omega, h2⟩, fun ⟨o, h1, h2⟩ => ⟨o, by omega, h2⟩⟩))) (fun m h1 h2 => by exfalso; omega) (by omega)
      · refine sv_go C.1 C.2.1 [(.iload_n 3, 1), (.iload_n 1, 1)] (pc' := 18) (by decide +kernel) rfl (lv' := [(0, sv_r a), (1, sv_i v), (2, sv_i w), (3, sv_i Xg11_l3)]) (st' := [sv_i v, sv_i Xg11_l3]) rfl ?_
        have J29 : ∀  (σ28 : Nat → Nat → Int), (sv_ok ty σ28) → (sv_inv sp_1 ty σ28) → (sv_ofx [] [39] ty σ σ28) → (σ28 a 0 = (bq : Int) + 1) → (σ28 a 3 = (qh : Int) + 1) → (σ28 bq (v : Int).toNat = (P : Int) + 1) → (σ28 P 2 = (pc : Int) + 1) → (σ28 P 3 = (pr : Int) + 1) → (zG σ28 qh (zcO σ bq P pc pr v (Xg11_l3 + 1)) (600 * Xg11_l3 + 600)) → sv_E p l e { frames := 2, cells := 0, slots := 0, locals := 49 } s m args below meth c 5 g A ty (fun r σ' => (∃ rv : Int, r = [sv_i rv] ∧ ((-1) ≤ rv ∧ rv ≤ 1440) ∧ ((-2147483648) ≤ rv → rv ≤ 2147483647 → mF (zcO σ bq P pc pr v 12) w rv)) ∧ sv_inv sp_1 ty σ' ∧ sv_ofx [] [39] ty σ σ') σ28 53 [(0, sv_r a), (1, sv_i v), (2, sv_i w), (3, sv_i Xg11_l3)] [] := by
          intro σ28 okσ28 Iσ28 Fσ28 eσ28_0 eσ28_1 eσ28_2 eσ28_3 eσ28_4 zj
          refine sv_go C.1 C.2.1 [(.iinc 3 1, 3)] (pc' := 56) (by decide +kernel) rfl (lv' := [(0, sv_r a), (1, sv_i v), (2, sv_i w), (3, sv_i (Xg11_l3 + 1))]) (st' := []) rfl ?_
          refine sv_goto C.1 C.2.1 (off := (-46)) (tgt := 10) (by decide +kernel) (by decide) ?_
          exact ih14 (Xg11_l3 + 1) σ28 ⟨by omega, by omega⟩ okσ28 Iσ28 Fσ28 eσ28_0 eσ28_1 eσ28_2 eσ28_3 eσ28_4 (zG_cg zj (by omega) (fun _ _ _ => Iff.rfl)) (by omega)
        refine sv_icmp C.1 C.2.1 (cnd := .eq) (off := 35) (tgt := 53) (by decide +kernel) (by decide) ⟨by omega, by omega⟩ ⟨by omega, by omega⟩ (fun (h26 : Xg11_l3 = v) => ?_) (fun (h26 : ¬ (Xg11_l3 = v)) => ?_)
        · exact J29 σ12 okσ12 Iσ12 Fσ12 eσ12_0 eσ12_1 eσ12_2 eσ12_3 eσ12_4 (zO_skip (by omega) zo (by omega) (Or.inl (by omega)))
        · refine sv_go C.1 C.2.1 [(.aload_n 0, 1)] (pc' := 22) (by decide +kernel) rfl (lv' := [(0, sv_r a), (1, sv_i v), (2, sv_i w), (3, sv_i Xg11_l3)]) (st' := [sv_r a]) rfl ?_
          refine sv_gf C (index := 11) (ci := 7) (k := 0) (r := (RX8, TX8, 4)) (v := sv_r bq) (by decide +kernel) (by rw [k_a]; rfl) rfl (by decide) fl_X8_11 (congrArg sv_a eσ12_0) ?_
          refine sv_go C.1 C.2.1 [(.iload_n 3, 1)] (pc' := 26) (by decide +kernel) rfl (lv' := [(0, sv_r a), (1, sv_i v), (2, sv_i w), (3, sv_i Xg11_l3)]) (st' := [sv_i Xg11_l3, sv_r bq]) rfl ?_
          refine sv_aa C (N := "SaintsRoad$Procession") (by decide) (n := 12) (by decide +kernel) (by rw [k_bq]; rfl) (by decide) (by omega) (by omega) ?_
          obtain ⟨v30, ev30, kv30⟩ := Iσ12.ref (k := (Xg11_l3 : Int).toNat) k_bq (by first | rfl | (show (if _ then _ else _) = _; rw [if_pos (by omega)]))
          rw [ev30]
          obtain ⟨v31, ev31, hv31⟩ := sv_rdn Iσ12 (k := 0) kv30 rfl
          refine sv_gf C (index := 42) (ci := 4) (k := 0) (r := (RX5, TX5, 5)) (v := sv_i v31) (by decide +kernel) (by rw [kv30]; rfl) rfl (by decide) fl_X8_42 (congrArg sv_i ev31) ?_
          refine sv_go C.1 C.2.1 [(.iconst 2, 1)] (pc' := 31) (by decide +kernel) rfl (lv' := [(0, sv_r a), (1, sv_i v), (2, sv_i w), (3, sv_i Xg11_l3)]) (st' := [sv_i 2, sv_i v31]) rfl ?_
          refine sv_icmp C.1 C.2.1 (cnd := .lt) (off := 22) (tgt := 53) (by decide +kernel) (by decide) ⟨by omega, by omega⟩ ⟨by omega, by omega⟩ (fun (h32 : v31 < 2) => ?_) (fun (h32 : ¬ (v31 < 2)) => ?_)
          · exact J29 σ12 okσ12 Iσ12 Fσ12 eσ12_0 eσ12_1 eσ12_2 eσ12_3 eσ12_4 (zO_skip (by omega) zo (by omega) (Or.inr (fun Q q => by have tq := ev30; rw [rbq] at tq; have t : v30 = Q := (by omega); subst t; have tz := ev31; rw [r9 _ _ kv30] at tz; omega)))
          · refine sv_go C.1 C.2.1 [(.aload_n 0, 1)] (pc' := 35) (by decide +kernel) rfl (lv' := [(0, sv_r a), (1, sv_i v), (2, sv_i w), (3, sv_i Xg11_l3)]) (st' := [sv_r a]) rfl ?_
            refine sv_gf C (index := 11) (ci := 7) (k := 0) (r := (RX8, TX8, 4)) (v := sv_r bq) (by decide +kernel) (by rw [k_a]; rfl) rfl (by decide) fl_X8_11 (congrArg sv_a eσ12_0) ?_
            refine sv_go C.1 C.2.1 [(.iload_n 1, 1)] (pc' := 39) (by decide +kernel) rfl (lv' := [(0, sv_r a), (1, sv_i v), (2, sv_i w), (3, sv_i Xg11_l3)]) (st' := [sv_i v, sv_r bq]) rfl ?_
            refine sv_aa C (N := "SaintsRoad$Procession") (by decide) (n := 12) (by decide +kernel) (by rw [k_bq]; rfl) (by decide) (by omega) (by omega) ?_
            rw [eσ12_2]
            refine sv_go C.1 C.2.1 [(.aload_n 0, 1)] (pc' := 41) (by decide +kernel) rfl (lv' := [(0, sv_r a), (1, sv_i v), (2, sv_i w), (3, sv_i Xg11_l3)]) (st' := [sv_r a, sv_r P]) rfl ?_
            refine sv_gf C (index := 11) (ci := 7) (k := 0) (r := (RX8, TX8, 4)) (v := sv_r bq) (by decide +kernel) (by rw [k_a]; rfl) rfl (by decide) fl_X8_11 (congrArg sv_a eσ12_0) ?_
            refine sv_go C.1 C.2.1 [(.iload_n 3, 1)] (pc' := 45) (by decide +kernel) rfl (lv' := [(0, sv_r a), (1, sv_i v), (2, sv_i w), (3, sv_i Xg11_l3)]) (st' := [sv_i Xg11_l3, sv_r bq, sv_r P]) rfl ?_
            refine sv_aa C (N := "SaintsRoad$Procession") (by decide) (n := 12) (by decide +kernel) (by rw [k_bq]; rfl) (by decide) (by omega) (by omega) ?_
            rw [ev30]
            refine sv_go C.1 C.2.1 [(.aload_n 0, 1)] (pc' := 47) (by decide +kernel) rfl (lv' := [(0, sv_r a), (1, sv_i v), (2, sv_i w), (3, sv_i Xg11_l3)]) (st' := [sv_r a, sv_r v30, sv_r P]) rfl ?_
            refine sv_gf C (index := 21) (ci := 7) (k := 3) (r := (RX8, TX8, 4)) (v := sv_r qh) (by decide +kernel) (by rw [k_a]; rfl) rfl (by decide) fl_X8_21 (congrArg sv_a eσ12_1) ?_
            obtain ⟨gn33, egn33, hgn33⟩ := sv_rdn Iσ12 (k := 0) k_P rfl
            obtain ⟨gn34, egn34, hgn34⟩ := sv_rdn Iσ12 (k := 1) k_P rfl
            obtain ⟨gn35, egn35, hgn35⟩ := sv_rdn Iσ12 (k := 4) k_P rfl
            obtain ⟨gn36, egn36, hgn36⟩ := sv_rdn Iσ12 (k := 1) kv30 rfl
            obtain ⟨gq37, egq37, kgq37⟩ := Iσ12.ref (k := 2) kv30 rfl
            obtain ⟨gq38, egq38, kgq38⟩ := Iσ12.ref (k := 3) kv30 rfl
            obtain ⟨gn39, egn39, hgn39⟩ := sv_rdn Iσ12 (k := 4) kv30 rfl
            refine sv_cv C (index := 51) (k := 2) (rest := []) (ci := 4) (r := (RX5, TX5, 5)) (by decide +kernel) (ct_X5_addHindrances l g A ty σ12 okσ12 hTA Iσ12 P k_P v30 kv30 qh k_qh (gn33) ⟨by omega, by omega⟩ (gn34) ⟨by omega, by omega⟩ pc k_pc pr k_pr (gn35) ⟨by omega, by omega⟩ (v31) ⟨by omega, by omega⟩ (gn36) ⟨by omega, by omega⟩ gq37 kgq37 gq38 kgq38 (gn39) ⟨by omega, by omega⟩ egn33 egn34 eσ12_3 eσ12_4 egn35 ev31 egn36 egq37 egq38 egn39) ⟨co_X5_addHindrances, in_X5, ⟨by decide, by decide, by decide +kernel⟩, Nat.le_of_ble_eq_true rfl, Nat.le_of_ble_eq_true rfl⟩ ml_X8_51 im_X5_addHindrances se_X5_addHindrances (by rw [k_P]; rfl) rfl rfl rfl (Nat.le_of_ble_eq_true rfl) ⟨Nat.zero_le _, Nat.zero_le _⟩ (fun r41 σ42 hpo40 hok43 => ?_)
            obtain ⟨rfl, hIu44, hFu44, xu44⟩ := hpo40
            have hGu44 := Fσ12.tr hFu44 (by decide) (by decide)
            have t45 : σ42 a 0 = (bq : Int) + 1 := (hFu44.at k_a (by decide) (by decide)).trans eσ12_0
            have t46 : σ42 a 3 = (qh : Int) + 1 := (hFu44.at k_a (by decide) (by decide)).trans eσ12_1
            have t47 : σ42 bq (v : Int).toNat = (P : Int) + 1 := (hFu44.atA k_bq (by decide) (by decide)).trans eσ12_2
            have t48 : σ42 P 2 = (pc : Int) + 1 := (hFu44.at k_P (by decide) (by decide)).trans eσ12_3
            have t49 : σ42 P 3 = (pr : Int) + 1 := (hFu44.at k_P (by decide) (by decide)).trans eσ12_4
            have t50 : σ42 bq (Xg11_l3 : Int).toNat = (v30 : Int) + 1 := (hFu44.atA k_bq (by decide) (by decide)).trans ev30
            have t51 : σ42 v30 0 = v31 := (hFu44.at kv30 (by decide) (by decide)).trans ev31
            have t52 : σ42 P 0 = gn33 := (hFu44.at k_P (by decide) (by decide)).trans egn33
            have t53 : σ42 P 1 = gn34 := (hFu44.at k_P (by decide) (by decide)).trans egn34
            have t54 : σ42 P 4 = gn35 := (hFu44.at k_P (by decide) (by decide)).trans egn35
            have t55 : σ42 v30 1 = gn36 := (hFu44.at kv30 (by decide) (by decide)).trans egn36
            have t56 : σ42 v30 2 = (gq37 : Int) + 1 := (hFu44.at kv30 (by decide) (by decide)).trans egq37
            have t57 : σ42 v30 3 = (gq38 : Int) + 1 := (hFu44.at kv30 (by decide) (by decide)).trans egq38
            have t58 : σ42 v30 4 = gn39 := (hFu44.at kv30 (by decide) (by decide)).trans egn39
            refine sv_same (st2 := []) (lv2 := [(0, sv_r a), (1, sv_i v), (2, sv_i w), (3, sv_i Xg11_l3)]) rfl rfl ?_
            exact J29 σ42 hok43 hIu44 hGu44 t45 t46 t47 t48 t49 (by have hx := xu44 _ _ zo; rw [r40 pc k_pc, r40 gq37 kgq37, zfr_cg (r41 gq38 kgq38) (r41 pr k_pr), ztl_cg (r41 gq38 kgq38) (r41 pr k_pr), ← (show σ P 0 = gn33 from (r9 P 0 k_P).symm.trans egn33), ← (show σ P 4 = gn35 from (r9 P 4 k_P).symm.trans egn35), ← (show σ v30 0 = v31 from (r9 v30 0 kv30).symm.trans ev31), ← (show σ v30 1 = gn36 from (r9 v30 1 kv30).symm.trans egn36), ← (show σ v30 4 = gn39 from (r9 v30 4 kv30).symm.trans egn39)] at hx; exact zO_add (by omega) (by omega) ((rbq _).symm.trans ev30) ((r9 v30 2 kv30).symm.trans egq37) ((r9 v30 3 kv30).symm.trans egq38) (by rw [← r9 v30 0 kv30, ev31]; omega) hx (by omega))
  exact L13 (((12 - 0 : Int)).toNat + 1) 0 σ3 ⟨by omega, by omega⟩ hok4 hIu5 hGu5 t6 t7 t8 t9 t10 (zO_0 (by decide) h2u5) (by omega)

def zc_timed (σ : Nat → Nat → Int) (bq : Nat) (k w rv : Int) : Prop := (¬ ((0 ≤ k ∧ k ≤ 11) ∧ 0 ≤ w ∧ w ≤ 1440) → rv = -2) ∧ ∀ P c r : Nat, (0 ≤ k ∧ k ≤ 11) → (0 ≤ w ∧ w ≤ 1440) → σ bq k.toNat = (P : Int) + 1 → σ P 2 = (c : Int) + 1 → σ P 3 = (r : Int) + 1 → (σ P 0 < 2 → rv = -2) ∧ (2 ≤ σ P 0 → mF (zcO σ bq P c r k 12) w rv)
/-- the reference: procession o stands in the way at the minute m -/
def zmC (σ : Nat → Nat → Int) (s1 s2 s3 s4 s5 : Nat) (k m : Int) : Prop := ∃ o : Int, (0 ≤ o ∧ o ≤ 11 ∧ o ≠ k) ∧ zg_ok σ s1 o ∧ ∃ s t : Nat, mV (2 * σ s1 k.toNat - 1) (2 * σ s1 o.toNat - 1) s t ∧ mu (sv_up σ s2 k.toNat m) s2 s3 s4 s5 k o s t < 268435456
def zm_at (σ : Nat → Nat → Int) (s1 s2 s3 s4 s5 : Nat) (k o m f : Int) : Prop := mJ (mu (sv_up σ s2 k.toNat m) s2 s3 s4 s5 k o) (mV (2 * σ s1 k.toNat - 1) (2 * σ s1 o.toNat - 1)) f
def zmN (σ : Nat → Nat → Int) (s1 s2 s3 s4 s5 : Nat) (k m x : Int) : Prop := ∀ o : Int, 0 ≤ o → o < x → o ≠ k → zg_ok σ s1 o → zm_at σ s1 s2 s3 s4 s5 k o m 268435456
def zm_timed (σ : Nat → Nat → Int) (s1 s2 s3 s4 s5 : Nat) (k w rv : Int) : Prop := (¬ (zg_ok σ s1 k ∧ 0 ≤ w ∧ w ≤ 1440) → rv = -2) ∧ (zg_ok σ s1 k → (0 ≤ w ∧ w ≤ 1440) → mF (zmC σ s1 s2 s3 s4 s5 k) w rv)
theorem zmC_no {σ : Nat → Nat → Int} {s1 s2 s3 s4 s5 : Nat} {k m : Int} (h : zmN σ s1 s2 s3 s4 s5 k m 12) : ¬ zmC σ s1 s2 s3 s4 s5 k m := fun ⟨o, h1, h2, s, t, h3, h4⟩ => by
  have a := (h o h1.1 (by omega) h1.2.2 h2).2.2 s t h3
  omega
theorem zmC_of {σ : Nat → Nat → Int} {s1 s2 s3 s4 s5 : Nat} {k o m f : Int} (h : zm_at σ s1 s2 s3 s4 s5 k o m f) (hf : f ≠ 268435456) (ho : 0 ≤ o ∧ o ≤ 11 ∧ o ≠ k) (hg : zg_ok σ s1 o) : zmC σ s1 s2 s3 s4 s5 k m := by
  obtain ⟨a1, a2, -⟩ := h
  rcases a1 with a1 | ⟨s, t, p, q⟩
  · exact absurd a1 hf
  · exact ⟨o, ho, hg, s, t, p, by omega⟩
theorem zg_cg {σ τ : Nat → Nat → Int} {s1 : Nat} {k : Int} (h : τ s1 = σ s1) : zg_ok τ s1 k ↔ zg_ok σ s1 k := by
  unfold zg_ok
  rw [h]
theorem mu_cg {σ τ : Nat → Nat → Int} {s2 s3 s4 s5 : Nat} (h2 : τ s2 = σ s2) (h3 : τ s3 = σ s3) (h4 : τ s4 = σ s4) (h5 : τ s5 = σ s5) (k o : Int) : mu τ s2 s3 s4 s5 k o = mu σ s2 s3 s4 s5 k o := by
  have e4 : ∀ k, cdr τ s4 k = cdr σ s4 k := fun k => funext fun i => by unfold cdr; rw [h4]
  have e2 : ∀ k, hdr τ s2 s5 k = hdr σ s2 s5 k := fun k => funext fun i => by unfold hdr; rw [h2, h5]
  have e3 : ∀ k, ldr τ s2 s3 s5 k = ldr σ s2 s3 s5 k := fun k => funext fun i => by unfold ldr; rw [h2, h3, h5]
  unfold mu
  rw [e4 k, e4 o, e2 k, e2 o, e3 k, e3 o]
theorem zm_cg {σ τ : Nat → Nat → Int} {s1 s2 s3 s4 s5 : Nat} {k o m f : Int} (h1 : τ s1 = σ s1) (h2 : τ s2 = sv_up σ s2 k.toNat m s2) (h3 : τ s3 = sv_up σ s2 k.toNat m s3) (h4 : τ s4 = sv_up σ s2 k.toNat m s4) (h5 : τ s5 = sv_up σ s2 k.toNat m s5) (h : zm_two τ s1 s2 s3 s4 s5 k o f) : zm_at σ s1 s2 s3 s4 s5 k o m f := by
  unfold zm_two at h
  rw [mu_cg h2 h3 h4 h5, h1] at h
  exact h
theorem zmC_cg {σ τ : Nat → Nat → Int} {s1 s2 s3 s4 s5 : Nat} {k m : Int} (h1 : τ s1 = σ s1) (h2 : τ s2 = σ s2) (h3 : τ s3 = σ s3) (h4 : τ s4 = σ s4) (h5 : τ s5 = σ s5) : zmC τ s1 s2 s3 s4 s5 k m ↔ zmC σ s1 s2 s3 s4 s5 k m := by
  have r : ∀ q, τ q = σ q → sv_up τ s2 k.toNat m q = sv_up σ s2 k.toNat m q := fun q h => funext fun j => by unfold sv_up; rw [h]
  have e : ∀ o, mu (sv_up τ s2 k.toNat m) s2 s3 s4 s5 k o = mu (sv_up σ s2 k.toNat m) s2 s3 s4 s5 k o := fun o => mu_cg (r s2 h2) (r s3 h3) (r s4 h4) (r s5 h5) k o
  refine ⟨fun ⟨o, q1, q2, s, t, q3, q4⟩ => ⟨o, q1, (zg_cg h1).1 q2, s, t, by rw [← h1]; exact q3, by rw [← e]; exact q4⟩, fun ⟨o, q1, q2, s, t, q3, q4⟩ => ⟨o, q1, (zg_cg h1).2 q2, s, t, by rw [h1]; exact q3, by rw [e]; exact q4⟩⟩

set_option maxHeartbeats 4000000 in
set_option maxRecDepth 100000 in
theorem ct_X9_timed (l : Launch) (g : sv_G) (A : Nat → Prop) (ty : Nat → Nat) (σ : Nat → Nat → Int) (hok : sv_ok ty σ) (hTA : ∀ q, ty q ≠ 0 → A q) (hI : sv_inv sp_1 ty σ) (a : Nat) (k_a : ty a = 1) (ar1 : Int) (h_ar1 : (-2147483648) ≤ ar1 ∧ ar1 ≤ 2147483647) (ar2 : Int) (h_ar2 : (-2147483648) ≤ ar2 ∧ ar2 ≤ 2147483647) (tq : Nat) (k_tq : ty tq = 6) (bq : Nat) (k_bq : ty bq = 37) (et : σ a 4 = (tq : Int) + 1) (eb : σ tq 0 = (bq : Int) + 1) : sv_M l yX9_timed cX9_timed 3 (some .int) { frames := 3, cells := 0, slots := 0, locals := 73 } g A ty σ [sv_r a, sv_i ar1, sv_i ar2] (fun r σ' => (∃ rv : Int, r = [sv_i rv] ∧ ((-2) ≤ rv ∧ rv ≤ 1440) ∧ ((-2147483648) ≤ rv → rv ≤ 2147483647 → zc_timed σ bq ar1 ar2 rv)) ∧ sv_inv sp_1 ty σ' ∧ sv_ofx [] [39] ty σ σ') := by
  refine sv_enter (by decide) (Nat.le_of_ble_eq_true rfl) ?_
  intro p e s m args below meth c C hr
  have C : sv_C g A RX9 cX9_timed 3 p s m args meth c := C
  have hr : meth.sig.returnType = (some .int) := hr
  have hF : sv_ofx [] [39] ty σ σ := sv_ofx.rf
  refine sv_same (st2 := []) (lv2 := [(0, sv_r a), (1, sv_i ar1), (2, sv_i ar2)]) rfl rfl ?_
  refine sv_go C.1 C.2.1 [(.aload_n 0, 1), (.iload_n 1, 1), (.iconst 2, 1)] (pc' := 3) (by decide +kernel) rfl (lv' := [(0, sv_r a), (1, sv_i ar1), (2, sv_i ar2)]) (st' := [sv_i 2, sv_i ar1, sv_r a]) rfl ?_
  refine sv_cv C (index := 200) (k := 2) (rest := []) (ci := 8) (r := (RX9, TX9, 6)) (by decide +kernel) (ct_X9_isLong l g A ty σ hok hTA hI a k_a (ar1) ⟨by omega, by omega⟩ (2) ⟨by omega, by omega⟩ tq k_tq bq k_bq et eb) ⟨co_X9_isLong, in_X9, ⟨by decide, by decide, by decide +kernel⟩, Nat.le_of_ble_eq_true rfl, Nat.le_of_ble_eq_true rfl⟩ ml_X9_200 im_X9_isLong se_X9_isLong (by rw [k_a]; rfl) rfl rfl rfl (Nat.le_of_ble_eq_true rfl) ⟨Nat.zero_le _, Nat.zero_le _⟩ (fun r2 σ3 hpo1 hok4 => ?_)
  obtain ⟨rfl, ⟨vu5, rfl, hvu5, ivu5_0, ivu5_1⟩⟩ := hpo1
  refine sv_same (st2 := [sv_i vu5]) (lv2 := [(0, sv_r a), (1, sv_i ar1), (2, sv_i ar2)]) rfl rfl ?_
  refine sv_if C.1 C.2.1 (cnd := .eq) (off := 10) (tgt := 16) (by decide +kernel) (by decide) ⟨by omega, by omega⟩ (fun (h6 : vu5 = 0) => ?_) (fun (h6 : ¬ (vu5 = 0)) => ?_)
  · have hp7 := ivu5_1 (by omega) (by omega)
    refine sv_go C.1 C.2.1 [(.bipush (-2), 2)] (pc' := 18) (by decide +kernel) rfl (lv' := [(0, sv_r a), (1, sv_i ar1), (2, sv_i ar2)]) (st' := [sv_i ((-2))]) rfl ?_
    exact sv_iret C hr (by decide +kernel) hok4 (⟨⟨_, rfl, ⟨by omega, by omega⟩, fun _ _ => ⟨fun _ => rfl, fun P c r hk hw q1 q2 q3 => by have hz := hp7 hk P q1; exact ⟨fun _ => rfl, fun h => by exfalso; omega⟩⟩⟩, hI, hF⟩)
  · have hp8 := ivu5_0 (by omega) (by omega)
    refine sv_go C.1 C.2.1 [(.iload_n 2, 1)] (pc' := 10) (by decide +kernel) rfl (lv' := [(0, sv_r a), (1, sv_i ar1), (2, sv_i ar2)]) (st' := [sv_i ar2]) rfl ?_
    refine sv_cs C (index := 187) (k := 1) (rest := []) (by decide +kernel) (sf2_X9_isBeginning l g A ty σ hok4 hTA hI (ar2) ⟨by omega, by omega⟩) ⟨co_X9_isBeginning, in_X9, ⟨by decide, by decide, by decide +kernel⟩, Nat.le_of_ble_eq_true rfl, Nat.le_of_ble_eq_true rfl⟩ ml_X9_187 st_X9_isBeginning rfl rfl (Nat.le_of_ble_eq_true rfl) ⟨Nat.zero_le _, Nat.zero_le _⟩ (fun r10 σ11 hpo9 hok12 => ?_)
    obtain ⟨rfl, ⟨vu13, rfl, hvu13, ivu13_0, ivu13_1⟩⟩ := hpo9
    refine sv_same (st2 := [sv_i vu13]) (lv2 := [(0, sv_r a), (1, sv_i ar1), (2, sv_i ar2)]) rfl rfl ?_
    refine sv_if C.1 C.2.1 (cnd := .ne) (off := 6) (tgt := 19) (by decide +kernel) (by decide) ⟨by omega, by omega⟩ (fun (h14 : vu13 ≠ 0) => ?_) (fun (h14 : ¬ (vu13 ≠ 0)) => ?_)
    · have hp15 := ivu13_0 (by omega) (by omega)
      refine sv_go C.1 C.2.1 [(.aload_n 0, 1)] (pc' := 20) (by decide +kernel) rfl (lv' := [(0, sv_r a), (1, sv_i ar1), (2, sv_i ar2)]) (st' := [sv_r a]) rfl ?_
      refine sv_gf C (index := 40) (ci := 8) (k := 4) (r := (RX9, TX9, 6)) (v := sv_r tq) (by decide +kernel) (by rw [k_a]; rfl) rfl (by decide) fl_X9_40 (congrArg sv_a et) ?_
      refine sv_go C.1 C.2.1 [(.iload_n 1, 1), (.iload_n 2, 1)] (pc' := 25) (by decide +kernel) rfl (lv' := [(0, sv_r a), (1, sv_i ar1), (2, sv_i ar2)]) (st' := [sv_i ar2, sv_i ar1, sv_r tq]) rfl ?_
      obtain ⟨gq16, egq16, kgq16⟩ := hI.ref (k := 3) k_tq rfl
      obtain ⟨gq17, egq17, kgq17⟩ := hI.ref (k := (ar1 : Int).toNat) k_bq (by first | rfl | (show (if _ then _ else _) = _; rw [if_pos (by omega)]))
      obtain ⟨gq18, egq18, kgq18⟩ := hI.ref (k := 2) kgq17 rfl
      obtain ⟨gq19, egq19, kgq19⟩ := hI.ref (k := 3) kgq17 rfl
      have hz2 := (hp8).2 gq17 egq17
      refine sv_cv C (index := 225) (k := 2) (rest := []) (ci := 7) (r := (RX8, TX8, 4)) (by decide +kernel) (ct_X8_firstFree l g A ty σ hok12 hTA hI tq k_tq (ar1) ⟨by omega, by omega⟩ (ar2) ⟨by omega, by omega⟩ bq k_bq gq16 kgq16 gq17 kgq17 gq18 kgq18 gq19 kgq19 eb egq16 egq17 egq18 egq19) ⟨co_X8_firstFree, in_X8, ⟨by decide, by decide, by decide +kernel⟩, Nat.le_of_ble_eq_true rfl, Nat.le_of_ble_eq_true rfl⟩ ml_X9_225 im_X8_firstFree se_X8_firstFree (by rw [k_tq]; rfl) rfl rfl rfl (Nat.le_of_ble_eq_true rfl) ⟨Nat.zero_le _, Nat.zero_le _⟩ (fun r21 σ22 hpo20 hok23 => ?_)
      obtain ⟨⟨vu24, rfl, hvu24, ivu24_0⟩, hIu24, hFu24⟩ := hpo20
      have hGu24 := hF.tr hFu24 (by decide) (by decide)
      have t25 : σ22 a 4 = (tq : Int) + 1 := (hFu24.at k_a (by decide) (by decide)).trans et
      have t26 : σ22 tq 0 = (bq : Int) + 1 := (hFu24.at k_tq (by decide) (by decide)).trans eb
      have t27 : σ22 tq 3 = (gq16 : Int) + 1 := (hFu24.at k_tq (by decide) (by decide)).trans egq16
      have t28 : σ22 bq (ar1 : Int).toNat = (gq17 : Int) + 1 := (hFu24.atA k_bq (by decide) (by decide)).trans egq17
      have t29 : σ22 gq17 2 = (gq18 : Int) + 1 := (hFu24.at kgq17 (by decide) (by decide)).trans egq18
      have t30 : σ22 gq17 3 = (gq19 : Int) + 1 := (hFu24.at kgq17 (by decide) (by decide)).trans egq19
      have hp31 := ivu24_0 (by omega) (by omega)
      refine sv_same (st2 := [sv_i vu24]) (lv2 := [(0, sv_r a), (1, sv_i ar1), (2, sv_i ar2)]) rfl rfl ?_
      exact sv_iret C hr (by decide +kernel) hok23 (⟨⟨_, rfl, ⟨by omega, by omega⟩, fun _ _ => ⟨fun h => by exfalso; omega, fun P c r hk hw q1 q2 q3 => by have tP : gq17 = P := (by omega); subst tP; have tc : gq18 = c := (by omega); subst tc; have tr : gq19 = r := (by omega); subst tr; exact ⟨fun h => by exfalso; omega, fun _ => hp31⟩⟩⟩, hIu24, hGu24⟩)
    · have hp32 := ivu13_1 (by omega) (by omega)
      refine sv_go C.1 C.2.1 [(.bipush (-2), 2)] (pc' := 18) (by decide +kernel) rfl (lv' := [(0, sv_r a), (1, sv_i ar1), (2, sv_i ar2)]) (st' := [sv_i ((-2))]) rfl ?_
      exact sv_iret C hr (by decide +kernel) hok12 (⟨⟨_, rfl, ⟨by omega, by omega⟩, fun _ _ => ⟨fun _ => rfl, fun P c r hk hw q1 q2 q3 => by exfalso; omega⟩⟩, hI, hF⟩)

set_option maxHeartbeats 4000000 in
set_option maxRecDepth 100000 in
theorem ct_X11_timed2 (l : Launch) (g : sv_G) (A : Nat → Prop) (ty : Nat → Nat) (σ : Nat → Nat → Int) (hok : sv_ok ty σ) (hTA : ∀ q, ty q ≠ 0 → A q) (hI : sv_inv sp_1 ty σ) (a : Nat) (k_a : ty a = 10) (ar1 : Int) (h_ar1 : (-2147483648) ≤ ar1 ∧ ar1 ≤ 2147483647) (ar2 : Int) (h_ar2 : (-2147483648) ≤ ar2 ∧ ar2 ≤ 2147483647) (s1 : Nat) (k_s1 : ty s1 = 102) (s2 : Nat) (k_s2 : ty s2 = 103) (s3 : Nat) (k_s3 : ty s3 = 104) (s4 : Nat) (k_s4 : ty s4 = 105) (s5 : Nat) (k_s5 : ty s5 = 106) (es1 : σ a 42 = (s1 : Int) + 1) (es2 : σ a 43 = (s2 : Int) + 1) (es3 : σ a 44 = (s3 : Int) + 1) (es4 : σ a 45 = (s4 : Int) + 1) (es5 : σ a 46 = (s5 : Int) + 1) : sv_M l yX11_timed cX11_timed 8 (some .int) { frames := 3, cells := 0, slots := 0, locals := 70 } g A ty σ [sv_r a, sv_i ar1, sv_i ar2] (fun r σ' => (∃ rv : Int, r = [sv_i rv] ∧ ((-2) ≤ rv ∧ rv ≤ 1440) ∧ ((-2147483648) ≤ rv → rv ≤ 2147483647 → zm_timed σ s1 s2 s3 s4 s5 ar1 ar2 rv)) ∧ sv_inv sp_1 ty σ' ∧ sv_ofx [] [103] ty σ σ' ∧ ∀ j : Nat, σ' s2 j = σ s2 j) := by
  refine sv_enter (by decide) (Nat.le_of_ble_eq_true rfl) ?_
  intro p e s m args below meth c C hr
  have C : sv_C g A RX11 cX11_timed 8 p s m args meth c := C
  have hr : meth.sig.returnType = (some .int) := hr
  have hF : sv_ofx [] [103] ty σ σ := sv_ofx.rf
  refine sv_same (st2 := []) (lv2 := [(0, sv_r a), (1, sv_i ar1), (2, sv_i ar2)]) rfl rfl ?_
  refine sv_go C.1 C.2.1 [(.aload_n 0, 1), (.iload_n 1, 1)] (pc' := 2) (by decide +kernel) rfl (lv' := [(0, sv_r a), (1, sv_i ar1), (2, sv_i ar2)]) (st' := [sv_i ar1, sv_r a]) rfl ?_
  refine sv_cv C (index := 367) (k := 1) (rest := []) (ci := 10) (r := (RX11, TX11, 47)) (by decide +kernel) (ct_X11_isGoing l g A ty σ hok hTA hI a k_a (ar1) ⟨by omega, by omega⟩ s1 k_s1 es1) ⟨co_X11_isGoing, in_X11, ⟨by decide, by decide, by decide +kernel⟩, Nat.le_of_ble_eq_true rfl, Nat.le_of_ble_eq_true rfl⟩ ml_X11_367 im_X11_isGoing se_X11_isGoing (by rw [k_a]; rfl) rfl rfl rfl (Nat.le_of_ble_eq_true rfl) ⟨Nat.zero_le _, Nat.zero_le _⟩ (fun r2 σ3 hpo1 hok4 => ?_)
  obtain ⟨rfl, ⟨vu5, rfl, hvu5, ivu5_0, ivu5_1⟩⟩ := hpo1
  refine sv_same (st2 := [sv_i vu5]) (lv2 := [(0, sv_r a), (1, sv_i ar1), (2, sv_i ar2)]) rfl rfl ?_
  refine sv_if C.1 C.2.1 (cnd := .eq) (off := 15) (tgt := 20) (by decide +kernel) (by decide) ⟨by omega, by omega⟩ (fun (h6 : vu5 = 0) => ?_) (fun (h6 : ¬ (vu5 = 0)) => ?_)
  · have hp7 := ivu5_1 (by omega) (by omega)
    refine sv_go C.1 C.2.1 [(.bipush (-2), 2)] (pc' := 22) (by decide +kernel) rfl (lv' := [(0, sv_r a), (1, sv_i ar1), (2, sv_i ar2)]) (st' := [sv_i ((-2))]) rfl ?_
    exact sv_iret C hr (by decide +kernel) hok4 (⟨⟨_, rfl, ⟨by omega, by omega⟩, fun _ _ => ⟨fun _ => rfl, fun h1 h2 => absurd h1 hp7⟩⟩, hI, hF, fun _ => rfl⟩)
  · have hp8 := ivu5_0 (by omega) (by omega)
    refine sv_go C.1 C.2.1 [(.iload_n 2, 1)] (pc' := 9) (by decide +kernel) rfl (lv' := [(0, sv_r a), (1, sv_i ar1), (2, sv_i ar2)]) (st' := [sv_i ar2]) rfl ?_
    refine sv_i2l C.1 C.2.1 (by decide +kernel) ⟨by omega, by omega⟩ ?_
    refine sv_go C.1 C.2.1 [(.lconst 0, 1)] (pc' := 11) (by decide +kernel) rfl (lv' := [(0, sv_r a), (1, sv_i ar1), (2, sv_i ar2)]) (st' := [sv_l 0, sv_l ar2]) rfl ?_
    refine sv_ldc2 C (index := 348) (z := 1440) (by decide +kernel) cl_X11_348 (by decide) ?_
    refine sv_cs C (index := 9) (k := 3) (rest := []) (by decide +kernel) (ct_X11_in l g A ty σ hok4 (ar2) ⟨by omega, by omega⟩ (0) ⟨by omega, by omega⟩ (1440) ⟨by omega, by omega⟩) ⟨co_X11_in, in_X11, ⟨by decide, by decide, by decide +kernel⟩, Nat.le_of_ble_eq_true rfl, Nat.le_of_ble_eq_true rfl⟩ ml_X11_9 st_X11_in rfl rfl (Nat.le_of_ble_eq_true rfl) ⟨Nat.zero_le _, Nat.zero_le _⟩ (fun r10 σ11 hpo9 hok12 => ?_)
    obtain ⟨rfl, ⟨h13, rfl⟩ | ⟨h13, rfl⟩⟩ := hpo9
    · refine sv_same (st2 := [sv_i 1]) (lv2 := [(0, sv_r a), (1, sv_i ar1), (2, sv_i ar2)]) rfl rfl ?_
      refine sv_if_t C.1 C.2.1 (cnd := .ne) (off := 6) (tgt := 23) (by decide +kernel) (by decide) ⟨by omega, by omega⟩ (show 1 ≠ 0 by omega) ?_
      refine sv_go C.1 C.2.1 [(.aload_n 0, 1)] (pc' := 24) (by decide +kernel) rfl (lv' := [(0, sv_r a), (1, sv_i ar1), (2, sv_i ar2)]) (st' := [sv_r a]) rfl ?_
      refine sv_gf C (index := 154) (ci := 10) (k := 43) (r := (RX11, TX11, 47)) (v := sv_r s2) (by decide +kernel) (by rw [k_a]; rfl) rfl (by decide) fl_X11_154 (congrArg sv_a es2) ?_
      refine sv_go C.1 C.2.1 [(.iload_n 1, 1)] (pc' := 28) (by decide +kernel) rfl (lv' := [(0, sv_r a), (1, sv_i ar1), (2, sv_i ar2)]) (st' := [sv_i ar1, sv_r s2]) rfl ?_
      refine sv_ia C (n := 12) (by decide +kernel) (by rw [k_s2]; rfl) (by decide) (by omega) (by omega) ?_
      obtain ⟨v14, ev14, hv14⟩ := sv_rdn hI (k := (ar1 : Int).toNat) k_s2 rfl
      rw [ev14]
      refine sv_go C.1 C.2.1 [(.istore_n 3, 1), (.iconst (-1), 1), (.istore 4, 2), (.iload_n 2, 1), (.istore 5, 2)] (pc' := 36) (by decide +kernel) rfl (lv' := [(0, sv_r a), (1, sv_i ar1), (2, sv_i ar2), (3, sv_i v14), (4, sv_i ((-1))), (5, sv_i ar2)]) (st' := []) rfl ?_
      have J17 : ∀ (Yg15_l4 : Int) (Yg15_e5 : Int) (σ16 : Nat → Nat → Int), ((-1) ≤ Yg15_l4 ∧ Yg15_l4 ≤ 1440) → (0 ≤ Yg15_e5 ∧ Yg15_e5 ≤ 1440) → (sv_ok ty σ16) → (sv_inv sp_1 ty σ16) → (sv_ofx [] [103] ty σ σ16) → (σ16 a 42 = (s1 : Int) + 1) → (σ16 a 43 = (s2 : Int) + 1) → (σ16 a 44 = (s3 : Int) + 1) → (σ16 a 45 = (s4 : Int) + 1) → (σ16 a 46 = (s5 : Int) + 1) → (σ16 s2 (ar1 : Int).toNat = Yg15_e5) → (∀ j : Nat, j ≠ (ar1 : Int).toNat → σ16 s2 j = σ s2 j) → (mF (zmC σ s1 s2 s3 s4 s5 ar1) ar2 Yg15_l4) → sv_E p l e { frames := 3, cells := 0, slots := 0, locals := 70 } s m args below meth c 8 g A ty (fun r σ' => (∃ rv : Int, r = [sv_i rv] ∧ ((-2) ≤ rv ∧ rv ≤ 1440) ∧ ((-2147483648) ≤ rv → rv ≤ 2147483647 → zm_timed σ s1 s2 s3 s4 s5 ar1 ar2 rv)) ∧ sv_inv sp_1 ty σ' ∧ sv_ofx [] [103] ty σ σ' ∧ ∀ j : Nat, σ' s2 j = σ s2 j) σ16 132 [(0, sv_r a), (1, sv_i ar1), (3, sv_i v14), (4, sv_i Yg15_l4)] [] := by
        intro Yg15_l4 Yg15_e5 σ16 hYg15_l4 hYg15_e5 okσ16 Iσ16 Fσ16 eσ16_0 eσ16_1 eσ16_2 eσ16_3 eσ16_4 eσ16_5 hu zx
        refine sv_go C.1 C.2.1 [(.aload_n 0, 1)] (pc' := 133) (by decide +kernel) rfl (lv' := [(0, sv_r a), (1, sv_i ar1), (3, sv_i v14), (4, sv_i Yg15_l4)]) (st' := [sv_r a]) rfl ?_
        refine sv_gf C (index := 154) (ci := 10) (k := 43) (r := (RX11, TX11, 47)) (v := sv_r s2) (by decide +kernel) (by rw [k_a]; rfl) rfl (by decide) fl_X11_154 (congrArg sv_a eσ16_1) ?_
        refine sv_go C.1 C.2.1 [(.iload_n 1, 1), (.iload_n 3, 1)] (pc' := 138) (by decide +kernel) rfl (lv' := [(0, sv_r a), (1, sv_i ar1), (3, sv_i v14), (4, sv_i Yg15_l4)]) (st' := [sv_i v14, sv_i ar1, sv_r s2]) rfl ?_
        refine sv_is C (n := 12) (by decide +kernel) (by rw [k_s2]; rfl) (by decide) (by omega) (by omega) ⟨by omega, by omega⟩ (hTA _ (by rw [k_s2]; decide)) okσ16 (fun hok18 => ?_)
        have hI20 := Iσ16.up (a := s2) (k := (ar1 : Int).toNat) (z := v14) (by rw [k_s2]; exact ⟨by omega, by omega⟩)
        have hF21 := Fσ16.up (a := s2) (k := (ar1 : Int).toNat) (z := v14) (Or.inl (by rw [k_s2]; decide))
        generalize eσ19 : sv_up σ16 s2 (ar1 : Int).toNat v14 = σ19 at hok18 hI20 hF21 ⊢
        have t22 : σ19 a 42 = (s1 : Int) + 1 := by rw [← eσ19, sv_up_a (sv_ne k_a k_s2 (by decide))]; exact eσ16_0
        have t23 : σ19 a 43 = (s2 : Int) + 1 := by rw [← eσ19, sv_up_a (sv_ne k_a k_s2 (by decide))]; exact eσ16_1
        have t24 : σ19 a 44 = (s3 : Int) + 1 := by rw [← eσ19, sv_up_a (sv_ne k_a k_s2 (by decide))]; exact eσ16_2
        have t25 : σ19 a 45 = (s4 : Int) + 1 := by rw [← eσ19, sv_up_a (sv_ne k_a k_s2 (by decide))]; exact eσ16_3
        have t26 : σ19 a 46 = (s5 : Int) + 1 := by rw [← eσ19, sv_up_a (sv_ne k_a k_s2 (by decide))]; exact eσ16_4
        have t28 : σ19 s2 (ar1 : Int).toNat = v14 := by rw [← eσ19]; exact sv_up_s _ _ _ _
        refine sv_go C.1 C.2.1 [(.iload 4, 2)] (pc' := 141) (by decide +kernel) rfl (lv' := [(0, sv_r a), (1, sv_i ar1), (3, sv_i v14), (4, sv_i Yg15_l4)]) (st' := [sv_i Yg15_l4]) rfl ?_
        exact sv_iret C hr (by decide +kernel) hok18 (⟨⟨_, rfl, ⟨by omega, by omega⟩, fun _ _ => ⟨fun h => absurd ⟨hp8, by omega, by omega⟩ h, fun _ _ => zx⟩⟩, hI20, hF21, fun j => if hj : j = (ar1 : Int).toNat then (by rw [hj, ← eσ19, sv_up_s]; omega) else (by rw [← eσ19, sv_up_k hj]; exact hu j hj)⟩)
      have L31 : ∀ (n : Nat) (Xg29_l4 : Int) (Xg29_l5 : Int) (Xg29_e5 : Int) (σ30 : Nat → Nat → Int), ((-1) ≤ Xg29_l4 ∧ Xg29_l4 ≤ 1440) → (0 ≤ Xg29_l5 ∧ Xg29_l5 ≤ 1441) → (0 ≤ Xg29_e5 ∧ Xg29_e5 ≤ 1440) → (sv_ok ty σ30) → (sv_inv sp_1 ty σ30) → (sv_ofx [] [103] ty σ σ30) → (σ30 a 42 = (s1 : Int) + 1) → (σ30 a 43 = (s2 : Int) + 1) → (σ30 a 44 = (s3 : Int) + 1) → (σ30 a 45 = (s4 : Int) + 1) → (σ30 a 46 = (s5 : Int) + 1) → (σ30 s2 (ar1 : Int).toNat = Xg29_e5) → (∀ j : Nat, j ≠ (ar1 : Int).toNat → σ30 s2 j = σ s2 j) → (∀ m : Int, ar2 ≤ m → m < Xg29_l5 → (Xg29_l4 = -1 ∨ m < Xg29_l4) → zmC σ s1 s2 s3 s4 s5 ar1 m) → (Xg29_l4 ≠ -1 → ar2 ≤ Xg29_l4 ∧ Xg29_l4 ≤ 1440 ∧ ¬ zmC σ s1 s2 s3 s4 s5 ar1 Xg29_l4) → (Xg29_l4 < Xg29_l5) → (ar2 ≤ Xg29_l5) → (1441 - Xg29_l5) < (n : Int) → sv_E p l e { frames := 3, cells := 0, slots := 0, locals := 70 } s m args below meth c 8 g A ty (fun r σ' => (∃ rv : Int, r = [sv_i rv] ∧ ((-2) ≤ rv ∧ rv ≤ 1440) ∧ ((-2147483648) ≤ rv → rv ≤ 2147483647 → zm_timed σ s1 s2 s3 s4 s5 ar1 ar2 rv)) ∧ sv_inv sp_1 ty σ' ∧ sv_ofx [] [103] ty σ σ' ∧ ∀ j : Nat, σ' s2 j = σ s2 j) σ30 36 [(0, sv_r a), (1, sv_i ar1), (3, sv_i v14), (4, sv_i Xg29_l4), (5, sv_i Xg29_l5)] [] := by
        intro n
        induction n with
        | zero => intro Xg29_l4 Xg29_l5 Xg29_e5 σ30 hXg29_l4 hXg29_l5 hXg29_e5 okσ30 Iσ30 Fσ30 eσ30_0 eσ30_1 eσ30_2 eσ30_3 eσ30_4 eσ30_5 ht za zb zc zd_ hmu; exact absurd hmu (by omega)
        | succ n ih32 =>
          intro Xg29_l4 Xg29_l5 Xg29_e5 σ30 hXg29_l4 hXg29_l5 hXg29_e5 okσ30 Iσ30 Fσ30 eσ30_0 eσ30_1 eσ30_2 eσ30_3 eσ30_4 eσ30_5 ht za zb zc zd_ hmu
          refine sv_go C.1 C.2.1 [(.iload 5, 2), (.sipush 1440, 3)] (pc' := 41) (by decide +kernel) rfl (lv' := [(0, sv_r a), (1, sv_i ar1), (3, sv_i v14), (4, sv_i Xg29_l4), (5, sv_i Xg29_l5)]) (st' := [sv_i 1440, sv_i Xg29_l5]) rfl ?_
          refine sv_icmp C.1 C.2.1 (cnd := .gt) (off := 91) (tgt := 132) (by decide +kernel) (by decide) ⟨by omega, by omega⟩ ⟨by omega, by omega⟩ (fun (h33 : 1440 < Xg29_l5) => ?_) (fun (h33 : ¬ (1440 < Xg29_l5)) => ?_)
          · refine sv_pick [0, 1, 2, 3] (lv2 := [(0, sv_r a), (1, sv_i ar1), (3, sv_i v14), (4, sv_i Xg29_l4)]) rfl ?_
            exact J17 Xg29_l4 Xg29_e5 σ30 ⟨by omega, by omega⟩ ⟨by omega, by omega⟩ okσ30 Iσ30 Fσ30 eσ30_0 eσ30_1 eσ30_2 eσ30_3 eσ30_4 eσ30_5 (fun j hj => ht j hj) (if e : Xg29_l4 = -1 then Or.inl ⟨e, fun m h1 h2 => za m h1 (by omega) (Or.inl e)⟩ else Or.inr ⟨(zb e).1, (zb e).2.1, (zb e).2.2, fun m h1 h2 => za m h1 (by omega) (Or.inr h2)⟩)
          · refine sv_go C.1 C.2.1 [(.iload 4, 2), (.iconst (-1), 1)] (pc' := 47) (by decide +kernel) rfl (lv' := [(0, sv_r a), (1, sv_i ar1), (3, sv_i v14), (4, sv_i Xg29_l4), (5, sv_i Xg29_l5)]) (st' := [sv_i ((-1)), sv_i Xg29_l4]) rfl ?_
            refine sv_icmp C.1 C.2.1 (cnd := .ne) (off := 85) (tgt := 132) (by decide +kernel) (by decide) ⟨by omega, by omega⟩ ⟨by omega, by omega⟩ (fun (h34 : Xg29_l4 ≠ ((-1))) => ?_) (fun (h34 : ¬ (Xg29_l4 ≠ ((-1)))) => ?_)
            · refine sv_pick [0, 1, 2, 3] (lv2 := [(0, sv_r a), (1, sv_i ar1), (3, sv_i v14), (4, sv_i Xg29_l4)]) rfl ?_
              exact J17 Xg29_l4 Xg29_e5 σ30 ⟨by omega, by omega⟩ ⟨by omega, by omega⟩ okσ30 Iσ30 Fσ30 eσ30_0 eσ30_1 eσ30_2 eσ30_3 eσ30_4 eσ30_5 (fun j hj => ht j hj) (if e : Xg29_l4 = -1 then Or.inl ⟨e, fun m h1 h2 => za m h1 (by omega) (Or.inl e)⟩ else Or.inr ⟨(zb e).1, (zb e).2.1, (zb e).2.2, fun m h1 h2 => za m h1 (by omega) (Or.inr h2)⟩)
            · refine sv_go C.1 C.2.1 [(.aload_n 0, 1)] (pc' := 51) (by decide +kernel) rfl (lv' := [(0, sv_r a), (1, sv_i ar1), (3, sv_i v14), (4, sv_i Xg29_l4), (5, sv_i Xg29_l5)]) (st' := [sv_r a]) rfl ?_
              refine sv_gf C (index := 154) (ci := 10) (k := 43) (r := (RX11, TX11, 47)) (v := sv_r s2) (by decide +kernel) (by rw [k_a]; rfl) rfl (by decide) fl_X11_154 (congrArg sv_a eσ30_1) ?_
              refine sv_go C.1 C.2.1 [(.iload_n 1, 1), (.iload 5, 2)] (pc' := 57) (by decide +kernel) rfl (lv' := [(0, sv_r a), (1, sv_i ar1), (3, sv_i v14), (4, sv_i Xg29_l4), (5, sv_i Xg29_l5)]) (st' := [sv_i Xg29_l5, sv_i ar1, sv_r s2]) rfl ?_
              refine sv_is C (n := 12) (by decide +kernel) (by rw [k_s2]; rfl) (by decide) (by omega) (by omega) ⟨by omega, by omega⟩ (hTA _ (by rw [k_s2]; decide)) okσ30 (fun hok35 => ?_)
              have hI37 := Iσ30.up (a := s2) (k := (ar1 : Int).toNat) (z := Xg29_l5) (by rw [k_s2]; exact ⟨by omega, by omega⟩)
              have hF38 := Fσ30.up (a := s2) (k := (ar1 : Int).toNat) (z := Xg29_l5) (Or.inl (by rw [k_s2]; decide))
              generalize eσ36 : sv_up σ30 s2 (ar1 : Int).toNat Xg29_l5 = σ36 at hok35 hI37 hF38 ⊢
              have t39 : σ36 a 42 = (s1 : Int) + 1 := by rw [← eσ36, sv_up_a (sv_ne k_a k_s2 (by decide))]; exact eσ30_0
              have t40 : σ36 a 43 = (s2 : Int) + 1 := by rw [← eσ36, sv_up_a (sv_ne k_a k_s2 (by decide))]; exact eσ30_1
              have t41 : σ36 a 44 = (s3 : Int) + 1 := by rw [← eσ36, sv_up_a (sv_ne k_a k_s2 (by decide))]; exact eσ30_2
              have t42 : σ36 a 45 = (s4 : Int) + 1 := by rw [← eσ36, sv_up_a (sv_ne k_a k_s2 (by decide))]; exact eσ30_3
              have t43 : σ36 a 46 = (s5 : Int) + 1 := by rw [← eσ36, sv_up_a (sv_ne k_a k_s2 (by decide))]; exact eσ30_4
              have t45 : σ36 s2 (ar1 : Int).toNat = Xg29_l5 := by rw [← eσ36]; exact sv_up_s _ _ _ _
              refine sv_go C.1 C.2.1 [(.iconst 1, 1), (.istore 6, 2), (.iconst 0, 1), (.istore 7, 2)] (pc' := 64) (by decide +kernel) rfl (lv' := [(0, sv_r a), (1, sv_i ar1), (3, sv_i v14), (4, sv_i Xg29_l4), (5, sv_i Xg29_l5), (6, sv_i 1), (7, sv_i 0)]) (st' := []) rfl ?_
              have J47 : ∀ (Yg46_l6 : Int), (0 ≤ Yg46_l6 ∧ Yg46_l6 ≤ 1) → ((Yg46_l6 = 1 → zmN σ s1 s2 s3 s4 s5 ar1 Xg29_l5 12) ∧ (Yg46_l6 = 0 → zmC σ s1 s2 s3 s4 s5 ar1 Xg29_l5)) → sv_E p l e { frames := 3, cells := 0, slots := 0, locals := 70 } s m args below meth c 8 g A ty (fun r σ' => (∃ rv : Int, r = [sv_i rv] ∧ ((-2) ≤ rv ∧ rv ≤ 1440) ∧ ((-2147483648) ≤ rv → rv ≤ 2147483647 → zm_timed σ s1 s2 s3 s4 s5 ar1 ar2 rv)) ∧ sv_inv sp_1 ty σ' ∧ sv_ofx [] [103] ty σ σ' ∧ ∀ j : Nat, σ' s2 j = σ s2 j) σ36 117 [(0, sv_r a), (1, sv_i ar1), (3, sv_i v14), (4, sv_i Xg29_l4), (5, sv_i Xg29_l5), (6, sv_i Yg46_l6)] [] := by
                intro Yg46_l6 hYg46_l6 zf
                refine sv_go C.1 C.2.1 [(.iload 6, 2)] (pc' := 119) (by decide +kernel) rfl (lv' := [(0, sv_r a), (1, sv_i ar1), (3, sv_i v14), (4, sv_i Xg29_l4), (5, sv_i Xg29_l5), (6, sv_i Yg46_l6)]) (st' := [sv_i Yg46_l6]) rfl ?_
                refine sv_if C.1 C.2.1 (cnd := .eq) (off := 7) (tgt := 126) (by decide +kernel) (by decide) ⟨by omega, by omega⟩ (fun (h48 : Yg46_l6 = 0) => ?_) (fun (h48 : ¬ (Yg46_l6 = 0)) => ?_)
                · refine sv_go C.1 C.2.1 [(.iinc 5 1, 3)] (pc' := 129) (by decide +kernel) rfl (lv' := [(0, sv_r a), (1, sv_i ar1), (3, sv_i v14), (4, sv_i Xg29_l4), (5, sv_i (Xg29_l5 + 1)), (6, sv_i Yg46_l6)]) (st' := []) rfl ?_
                  refine sv_goto C.1 C.2.1 (off := (-93)) (tgt := 36) (by decide +kernel) (by decide) ?_
                  refine sv_pick [0, 1, 2, 3, 4] (lv2 := [(0, sv_r a), (1, sv_i ar1), (3, sv_i v14), (4, sv_i Xg29_l4), (5, sv_i (Xg29_l5 + 1))]) rfl ?_
                  exact ih32 Xg29_l4 (Xg29_l5 + 1) Xg29_l5 σ36 ⟨by omega, by omega⟩ ⟨by omega, by omega⟩ ⟨by omega, by omega⟩ hok35 hI37 hF38 t39 t40 t41 t42 t43 t45 (fun j hj => by rw [← eσ36, sv_up_k hj]; exact ht j hj) (fun m h1 h2 _ => if e : m = Xg29_l5 then (by rw [e]; exact zf.2 (by omega)) else za m h1 (by omega) (Or.inl (by omega))) (fun h => absurd (by omega) h) (by omega) (by omega) (by omega)
                · refine sv_go C.1 C.2.1 [(.iload 5, 2), (.istore 4, 2), (.iinc 5 1, 3)] (pc' := 129) (by decide +kernel) rfl (lv' := [(0, sv_r a), (1, sv_i ar1), (3, sv_i v14), (4, sv_i Xg29_l5), (5, sv_i (Xg29_l5 + 1)), (6, sv_i Yg46_l6)]) (st' := []) rfl ?_
                  refine sv_goto C.1 C.2.1 (off := (-93)) (tgt := 36) (by decide +kernel) (by decide) ?_
                  refine sv_pick [0, 1, 2, 3, 4] (lv2 := [(0, sv_r a), (1, sv_i ar1), (3, sv_i v14), (4, sv_i Xg29_l5), (5, sv_i (Xg29_l5 + 1))]) rfl ?_
                  exact ih32 Xg29_l5 (Xg29_l5 + 1) Xg29_l5 σ36 ⟨by omega, by omega⟩ ⟨by omega, by omega⟩ ⟨by omega, by omega⟩ hok35 hI37 hF38 t39 t40 t41 t42 t43 t45 (fun j hj => by rw [← eσ36, sv_up_k hj]; exact ht j hj) (fun m h1 h2 h3 => za m h1 (by omega) (Or.inl (by omega))) (fun _ => ⟨by omega, by omega, zmC_no (zf.1 (by omega))⟩) (by omega) (by omega) (by omega)
              have L50 : ∀ (n : Nat) (Xg49_l6 : Int) (Xg49_l7 : Int), (0 ≤ Xg49_l6 ∧ Xg49_l6 ≤ 1) → (0 ≤ Xg49_l7 ∧ Xg49_l7 ≤ 12) → ((Xg49_l6 = 1 → zmN σ s1 s2 s3 s4 s5 ar1 Xg29_l5 Xg49_l7) ∧ (Xg49_l6 = 0 → zmC σ s1 s2 s3 s4 s5 ar1 Xg29_l5)) → (12 - Xg49_l7) < (n : Int) → sv_E p l e { frames := 3, cells := 0, slots := 0, locals := 70 } s m args below meth c 8 g A ty (fun r σ' => (∃ rv : Int, r = [sv_i rv] ∧ ((-2) ≤ rv ∧ rv ≤ 1440) ∧ ((-2147483648) ≤ rv → rv ≤ 2147483647 → zm_timed σ s1 s2 s3 s4 s5 ar1 ar2 rv)) ∧ sv_inv sp_1 ty σ' ∧ sv_ofx [] [103] ty σ σ' ∧ ∀ j : Nat, σ' s2 j = σ s2 j) σ36 64 [(0, sv_r a), (1, sv_i ar1), (3, sv_i v14), (4, sv_i Xg29_l4), (5, sv_i Xg29_l5), (6, sv_i Xg49_l6), (7, sv_i Xg49_l7)] [] := by
                intro n
                induction n with
                | zero => intro Xg49_l6 Xg49_l7 hXg49_l6 hXg49_l7 zi hmu; exact absurd hmu (by omega)
                | succ n ih51 =>
                  intro Xg49_l6 Xg49_l7 hXg49_l6 hXg49_l7 zi hmu
                  have g1 : σ36 s1 = σ s1 := funext fun j => hF38.atA k_s1 (by decide) (by decide)
                  have u2 : σ36 s2 = sv_up σ s2 (ar1 : Int).toNat Xg29_l5 s2 := funext fun j => by
                    by_cases hj : j = (ar1 : Int).toNat
                    · rw [hj, ← eσ36, sv_up_s, sv_up_s]
                    · rw [← eσ36, sv_up_k hj, sv_up_k hj]; exact ht j hj
                  have u3 : σ36 s3 = sv_up σ s2 (ar1 : Int).toNat Xg29_l5 s3 := funext fun j => by rw [sv_up_a (sv_ne k_s3 k_s2 (by decide))]; exact hF38.atA k_s3 (by decide) (by decide)
                  have u4 : σ36 s4 = sv_up σ s2 (ar1 : Int).toNat Xg29_l5 s4 := funext fun j => by rw [sv_up_a (sv_ne k_s4 k_s2 (by decide))]; exact hF38.atA k_s4 (by decide) (by decide)
                  have u5 : σ36 s5 = sv_up σ s2 (ar1 : Int).toNat Xg29_l5 s5 := funext fun j => by rw [sv_up_a (sv_ne k_s5 k_s2 (by decide))]; exact hF38.atA k_s5 (by decide) (by decide)
                  refine sv_go C.1 C.2.1 [(.iload 7, 2), (.bipush 12, 2)] (pc' := 68) (by decide +kernel) rfl (lv' := [(0, sv_r a), (1, sv_i ar1), (3, sv_i v14), (4, sv_i Xg29_l4), (5, sv_i Xg29_l5), (6, sv_i Xg49_l6), (7, sv_i Xg49_l7)]) (st' := [sv_i 12, sv_i Xg49_l7]) rfl ?_
                  refine sv_icmp C.1 C.2.1 (cnd := .ge) (off := 49) (tgt := 117) (by decide +kernel) (by decide) ⟨by omega, by omega⟩ ⟨by omega, by omega⟩ (fun (h52 : 12 ≤ Xg49_l7) => ?_) (fun (h52 : ¬ (12 ≤ Xg49_l7)) => ?_)
                  · refine sv_pick [0, 1, 2, 3, 4, 5] (lv2 := [(0, sv_r a), (1, sv_i ar1), (3, sv_i v14), (4, sv_i Xg29_l4), (5, sv_i Xg29_l5), (6, sv_i Xg49_l6)]) rfl ?_
                    exact J47 Xg49_l6 ⟨by omega, by omega⟩ ⟨fun h o h1 h2 h3 h4 => zi.1 h o h1 (by omega) h3 h4, fun h => zi.2 h⟩
                  · refine sv_go C.1 C.2.1 [(.iload 6, 2)] (pc' := 73) (by decide +kernel) rfl (lv' := [(0, sv_r a), (1, sv_i ar1), (3, sv_i v14), (4, sv_i Xg29_l4), (5, sv_i Xg29_l5), (6, sv_i Xg49_l6), (7, sv_i Xg49_l7)]) (st' := [sv_i Xg49_l6]) rfl ?_
                    refine sv_if C.1 C.2.1 (cnd := .eq) (off := 44) (tgt := 117) (by decide +kernel) (by decide) ⟨by omega, by omega⟩ (fun (h53 : Xg49_l6 = 0) => ?_) (fun (h53 : ¬ (Xg49_l6 = 0)) => ?_)
                    · refine sv_pick [0, 1, 2, 3, 4, 5] (lv2 := [(0, sv_r a), (1, sv_i ar1), (3, sv_i v14), (4, sv_i Xg29_l4), (5, sv_i Xg29_l5), (6, sv_i Xg49_l6)]) rfl ?_
                      exact J47 Xg49_l6 ⟨by omega, by omega⟩ ⟨fun h o h1 h2 h3 h4 => zi.1 h o h1 (by omega) h3 h4, fun h => zi.2 h⟩
                    · refine sv_go C.1 C.2.1 [(.iload 7, 2), (.iload_n 1, 1)] (pc' := 79) (by decide +kernel) rfl (lv' := [(0, sv_r a), (1, sv_i ar1), (3, sv_i v14), (4, sv_i Xg29_l4), (5, sv_i Xg29_l5), (6, sv_i Xg49_l6), (7, sv_i Xg49_l7)]) (st' := [sv_i ar1, sv_i Xg49_l7]) rfl ?_
                      refine sv_icmp C.1 C.2.1 (cnd := .eq) (off := 25) (tgt := 104) (by decide +kernel) (by decide) ⟨by omega, by omega⟩ ⟨by omega, by omega⟩ (fun (h54 : Xg49_l7 = ar1) => ?_) (fun (h54 : ¬ (Xg49_l7 = ar1)) => ?_)
                      · refine sv_go C.1 C.2.1 [(.iconst 1, 1)] (pc' := 105) (by decide +kernel) rfl (lv' := [(0, sv_r a), (1, sv_i ar1), (3, sv_i v14), (4, sv_i Xg29_l4), (5, sv_i Xg29_l5), (6, sv_i Xg49_l6), (7, sv_i Xg49_l7)]) (st' := [sv_i 1]) rfl ?_
                        refine sv_goto C.1 C.2.1 (off := 4) (tgt := 109) (by decide +kernel) (by decide) ?_
                        refine sv_go C.1 C.2.1 [(.istore 6, 2), (.iinc 7 1, 3)] (pc' := 114) (by decide +kernel) rfl (lv' := [(0, sv_r a), (1, sv_i ar1), (3, sv_i v14), (4, sv_i Xg29_l4), (5, sv_i Xg29_l5), (6, sv_i 1), (7, sv_i (Xg49_l7 + 1))]) (st' := []) rfl ?_
                        refine sv_goto C.1 C.2.1 (off := (-50)) (tgt := 64) (by decide +kernel) (by decide) ?_
                        exact ih51 1 (Xg49_l7 + 1) ⟨by omega, by omega⟩ ⟨by omega, by omega⟩ ⟨fun _ o h1 h2 h3 h4 => zi.1 (by omega) o h1 (by omega) h3 h4, fun h => by exfalso; omega⟩ (by omega)
                      · refine sv_go C.1 C.2.1 [(.aload_n 0, 1), (.iload 7, 2)] (pc' := 85) (by decide +kernel) rfl (lv' := [(0, sv_r a), (1, sv_i ar1), (3, sv_i v14), (4, sv_i Xg29_l4), (5, sv_i Xg29_l5), (6, sv_i Xg49_l6), (7, sv_i Xg49_l7)]) (st' := [sv_i Xg49_l7, sv_r a]) rfl ?_
                        refine sv_cv C (index := 367) (k := 1) (rest := []) (ci := 10) (r := (RX11, TX11, 47)) (by decide +kernel) (ct_X11_isGoing l g A ty σ36 hok35 hTA hI37 a k_a (Xg49_l7) ⟨by omega, by omega⟩ s1 k_s1 t39) ⟨co_X11_isGoing, in_X11, ⟨by decide, by decide, by decide +kernel⟩, Nat.le_of_ble_eq_true rfl, Nat.le_of_ble_eq_true rfl⟩ ml_X11_367 im_X11_isGoing se_X11_isGoing (by rw [k_a]; rfl) rfl rfl rfl (Nat.le_of_ble_eq_true rfl) ⟨Nat.zero_le _, Nat.zero_le _⟩ (fun r56 σ57 hpo55 hok58 => ?_)
                        obtain ⟨rfl, ⟨vu59, rfl, hvu59, ivu59_0, ivu59_1⟩⟩ := hpo55
                        refine sv_same (st2 := [sv_i vu59]) (lv2 := [(0, sv_r a), (1, sv_i ar1), (3, sv_i v14), (4, sv_i Xg29_l4), (5, sv_i Xg29_l5), (6, sv_i Xg49_l6), (7, sv_i Xg49_l7)]) rfl rfl ?_
                        refine sv_if C.1 C.2.1 (cnd := .eq) (off := 16) (tgt := 104) (by decide +kernel) (by decide) ⟨by omega, by omega⟩ (fun (h60 : vu59 = 0) => ?_) (fun (h60 : ¬ (vu59 = 0)) => ?_)
                        · have hp61 := ivu59_1 (by omega) (by omega)
                          refine sv_go C.1 C.2.1 [(.iconst 1, 1)] (pc' := 105) (by decide +kernel) rfl (lv' := [(0, sv_r a), (1, sv_i ar1), (3, sv_i v14), (4, sv_i Xg29_l4), (5, sv_i Xg29_l5), (6, sv_i Xg49_l6), (7, sv_i Xg49_l7)]) (st' := [sv_i 1]) rfl ?_
                          refine sv_goto C.1 C.2.1 (off := 4) (tgt := 109) (by decide +kernel) (by decide) ?_
                          refine sv_go C.1 C.2.1 [(.istore 6, 2), (.iinc 7 1, 3)] (pc' := 114) (by decide +kernel) rfl (lv' := [(0, sv_r a), (1, sv_i ar1), (3, sv_i v14), (4, sv_i Xg29_l4), (5, sv_i Xg29_l5), (6, sv_i 1), (7, sv_i (Xg49_l7 + 1))]) (st' := []) rfl ?_
                          refine sv_goto C.1 C.2.1 (off := (-50)) (tgt := 64) (by decide +kernel) (by decide) ?_
                          exact ih51 1 (Xg49_l7 + 1) ⟨by omega, by omega⟩ ⟨by omega, by omega⟩ ⟨fun _ o h1 h2 h3 h4 => if e : o = Xg49_l7 then (hp61 ((zg_cg g1).2 (by rw [← e]; exact h4))).elim else zi.1 (by omega) o h1 (by omega) h3 h4, fun h => by exfalso; omega⟩ (by omega)
                        · have hp62 := ivu59_0 (by omega) (by omega)
                          refine sv_go C.1 C.2.1 [(.aload_n 0, 1), (.iload_n 1, 1), (.iload 7, 2)] (pc' := 95) (by decide +kernel) rfl (lv' := [(0, sv_r a), (1, sv_i ar1), (3, sv_i v14), (4, sv_i Xg29_l4), (5, sv_i Xg29_l5), (6, sv_i Xg49_l6), (7, sv_i Xg49_l7)]) (st' := [sv_i Xg49_l7, sv_i ar1, sv_r a]) rfl ?_
                          refine sv_cv C (index := 370) (k := 2) (rest := []) (ci := 10) (r := (RX11, TX11, 47)) (by decide +kernel) (ct_X11_meet l g A ty σ36 hok58 hTA hI37 a k_a (ar1) ⟨by omega, by omega⟩ (Xg49_l7) ⟨by omega, by omega⟩ s1 k_s1 s2 k_s2 s3 k_s3 s4 k_s4 s5 k_s5 t39 t40 t41 t42 t43) ⟨co_X11_meet, in_X11, ⟨by decide, by decide, by decide +kernel⟩, Nat.le_of_ble_eq_true rfl, Nat.le_of_ble_eq_true rfl⟩ ml_X11_370 im_X11_meet se_X11_meet (by rw [k_a]; rfl) rfl rfl rfl (Nat.le_of_ble_eq_true rfl) ⟨Nat.zero_le _, Nat.zero_le _⟩ (fun r64 σ65 hpo63 hok66 => ?_)
                          obtain ⟨rfl, ⟨vu67, rfl, hvu67, ivu67_0⟩⟩ := hpo63
                          have hp68 := ivu67_0 (by omega) (by omega)
                          refine sv_same (st2 := [sv_i vu67]) (lv2 := [(0, sv_r a), (1, sv_i ar1), (3, sv_i v14), (4, sv_i Xg29_l4), (5, sv_i Xg29_l5), (6, sv_i Xg49_l6), (7, sv_i Xg49_l7)]) rfl rfl ?_
                          refine sv_ldc_w C (index := 359) (z := 268435456) (by decide +kernel) ci_X11_359 (by decide) ?_
                          refine sv_icmp C.1 C.2.1 (cnd := .ne) (off := 7) (tgt := 108) (by decide +kernel) (by decide) ⟨by omega, by omega⟩ ⟨by omega, by omega⟩ (fun (h69 : vu67 ≠ 268435456) => ?_) (fun (h69 : ¬ (vu67 ≠ 268435456)) => ?_)
                          · refine sv_go C.1 C.2.1 [(.iconst 0, 1), (.istore 6, 2), (.iinc 7 1, 3)] (pc' := 114) (by decide +kernel) rfl (lv' := [(0, sv_r a), (1, sv_i ar1), (3, sv_i v14), (4, sv_i Xg29_l4), (5, sv_i Xg29_l5), (6, sv_i 0), (7, sv_i (Xg49_l7 + 1))]) (st' := []) rfl ?_
                            refine sv_goto C.1 C.2.1 (off := (-50)) (tgt := 64) (by decide +kernel) (by decide) ?_
                            exact ih51 0 (Xg49_l7 + 1) ⟨by omega, by omega⟩ ⟨by omega, by omega⟩ ⟨fun h => by exfalso; omega, fun _ => zmC_of (zm_cg g1 u2 u3 u4 u5 hp68) (by omega) ⟨by omega, by omega, by omega⟩ ((zg_cg g1).1 hp62)⟩ (by omega)
                          · refine sv_go C.1 C.2.1 [(.iconst 1, 1)] (pc' := 105) (by decide +kernel) rfl (lv' := [(0, sv_r a), (1, sv_i ar1), (3, sv_i v14), (4, sv_i Xg29_l4), (5, sv_i Xg29_l5), (6, sv_i Xg49_l6), (7, sv_i Xg49_l7)]) (st' := [sv_i 1]) rfl ?_
                            refine sv_goto C.1 C.2.1 (off := 4) (tgt := 109) (by decide +kernel) (by decide) ?_
                            refine sv_go C.1 C.2.1 [(.istore 6, 2), (.iinc 7 1, 3)] (pc' := 114) (by decide +kernel) rfl (lv' := [(0, sv_r a), (1, sv_i ar1), (3, sv_i v14), (4, sv_i Xg29_l4), (5, sv_i Xg29_l5), (6, sv_i 1), (7, sv_i (Xg49_l7 + 1))]) (st' := []) rfl ?_
                            refine sv_goto C.1 C.2.1 (off := (-50)) (tgt := 64) (by decide +kernel) (by decide) ?_
                            exact ih51 1 (Xg49_l7 + 1) ⟨by omega, by omega⟩ ⟨by omega, by omega⟩ ⟨fun _ o h1 h2 h3 h4 => if e : o = Xg49_l7 then (by rw [e]; have hh := hp68; rw [show vu67 = (268435456 : Int) by omega] at hh; exact (zm_cg g1 u2 u3 u4 u5 hh)) else zi.1 (by omega) o h1 (by omega) h3 h4, fun h => by exfalso; omega⟩ (by omega)
              exact L50 (((12 - 0 : Int)).toNat + 1) 1 0 ⟨by omega, by omega⟩ ⟨by omega, by omega⟩ ⟨fun _ o h1 h2 => by exfalso; omega, fun h => by exfalso; omega⟩ (by omega)
      refine sv_pick [0, 1, 3, 4, 5] (lv2 := [(0, sv_r a), (1, sv_i ar1), (3, sv_i v14), (4, sv_i ((-1))), (5, sv_i ar2)]) rfl ?_
      exact L31 (((1441 - ar2 : Int)).toNat + 1) ((-1)) ar2 v14 σ ⟨by omega, by omega⟩ ⟨by omega, by omega⟩ ⟨by omega, by omega⟩ hok12 hI hF es1 es2 es3 es4 es5 ev14 (fun j _ => rfl) (fun m h1 h2 => by exfalso; omega) (fun h => absurd rfl h) (by omega) (by omega) (by omega)
    · refine sv_same (st2 := [sv_i 0]) (lv2 := [(0, sv_r a), (1, sv_i ar1), (2, sv_i ar2)]) rfl rfl ?_
      refine sv_if_f C.1 C.2.1 (cnd := .ne) (off := 6) (tgt := 23) (by decide +kernel) (by decide) ⟨by omega, by omega⟩ (show ¬ (0 ≠ 0) by omega) ?_
      refine sv_go C.1 C.2.1 [(.bipush (-2), 2)] (pc' := 22) (by decide +kernel) rfl (lv' := [(0, sv_r a), (1, sv_i ar1), (2, sv_i ar2)]) (st' := [sv_i ((-2))]) rfl ?_
      exact sv_iret C hr (by decide +kernel) hok12 (⟨⟨_, rfl, ⟨by omega, by omega⟩, fun _ _ => ⟨fun _ => rfl, fun h1 h2 => by exfalso; omega⟩⟩, hI, hF, fun _ => rfl⟩)
