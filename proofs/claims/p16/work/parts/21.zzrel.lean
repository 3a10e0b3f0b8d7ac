/-! what ties the quarrels of both sides -/
/-- what ties class and reference -/
def lz_R (ty : Nat → Nat) (σ : Nat → Nat → Int) (x mm : Nat) : Prop := ∀ bq qa qm : Nat, σ x 3 = (bq : Int) + 1 → σ bq 3 = (qa : Int) + 1 → σ mm 33 = (qm : Int) + 1 → (∀ i : Nat, i < 10 → 0 ≤ σ qa i ∧ σ qa i ≤ 1023) ∧ ∀ i j : Nat, i < 10 → j < 10 → i ≠ j → fq_bit (σ qa i) (j : Int) = σ qm (10 * i + j) ∧ σ qm (10 * i + j) = σ qm (10 * j + i)
theorem lz_kept {ty : Nat → Nat} {σ σ' : Nat → Nat → Int} {x mm : Nat} {W : List (Nat × Nat)} {L : List Nat} (hx : ty x = 1) (hm : ty mm = 10) (hI : sv_inv sp_1 ty σ) (hF : sv_ofx W L ty σ σ') (h1 : ∀ K ∈ [1, 5, 10], K ∉ L) (h2 : ∀ q ∈ [(1, 3), (5, 3), (10, 33)], q ∉ W) {tq mq sq : Nat} (e1 : σ' x 3 = (tq : Int) + 1) (e2 : σ' tq 3 = (mq : Int) + 1) (e3 : σ' mm 33 = (sq : Int) + 1) : (σ x 3 = (tq : Int) + 1 ∧ ty tq = 5) ∧ (σ tq 3 = (mq : Int) + 1 ∧ ty mq = 31) ∧ σ mm 33 = (sq : Int) + 1 ∧ ty sq = 93 := by
  obtain ⟨q1, a1, k1⟩ := hI.ref (k := 3) hx rfl
  obtain ⟨q3, a3, k3⟩ := hI.ref (k := 33) hm rfl
  rw [hF.at hx (h1 1 (by decide)) (h2 (1, 3) (by decide))] at e1
  rw [hF.at hm (h1 10 (by decide)) (h2 (10, 33) (by decide))] at e3
  have t1 : tq = q1 := by omega
  have t3 : sq = q3 := by omega
  subst t1; subst t3
  obtain ⟨q2, a2, k2⟩ := hI.ref (k := 3) k1 rfl
  rw [hF.at k1 (h1 5 (by decide)) (h2 (5, 3) (by decide))] at e2
  have t2 : mq = q2 := by omega
  subst t2
  exact ⟨⟨e1, k1⟩, ⟨e2, k2⟩, e3, k3⟩
theorem lz_keep {ty : Nat → Nat} {σ σ' : Nat → Nat → Int} {x mm : Nat} {W : List (Nat × Nat)} {L : List Nat} (hx : ty x = 1) (hm : ty mm = 10) (hI : sv_inv sp_1 ty σ) (hF : sv_ofx W L ty σ σ') (h1 : ∀ K ∈ [1, 5, 10, 31, 93], K ∉ L) (h2 : ∀ q ∈ [(1, 3), (5, 3), (10, 33)], q ∉ W) (h3 : ∀ q ∈ W, q.1 ≠ 31 ∧ q.1 ≠ 93) (h : lz_R ty σ x mm) : lz_R ty σ' x mm := by
  intro tq mq sq e1 e2 e3
  obtain ⟨⟨f1, -⟩, ⟨f2, k2⟩, f3, k3⟩ := lz_kept hx hm hI hF (fun K hK => h1 K (by revert hK; revert K; decide)) h2 e1 e2 e3
  have r1 : ∀ j, σ' mq j = σ mq j := fun j => hF.atA k2 (h1 31 (by decide)) (fun q hq => (h3 q hq).1)
  have r2 : ∀ j, σ' sq j = σ sq j := fun j => hF.atA k3 (h1 93 (by decide)) (fun q hq => (h3 q hq).2)
  obtain ⟨g1, g2⟩ := h tq mq sq f1 f2 f3
  exact ⟨fun i hi => by rw [r1]; exact g1 i hi, fun i j hi hj hn => by rw [r1, r2, r2]; exact g2 i j hi hj hn⟩
theorem lz_quarrel {ty : Nat → Nat} {σ σ1 σ2 : Nat → Nat → Int} {x mm bq qa qm : Nat} {a b on v1 v2 : Int} {W1 W2 : List (Nat × Nat)} {L1 L2 : List Nat} (hx : ty x = 1) (hm : ty mm = 10) (hI : sv_inv sp_1 ty σ) (hI1 : sv_inv sp_1 ty σ1) (hR : lz_R ty σ x mm) (eb : σ x 3 = (bq : Int) + 1) (eq : σ bq 3 = (qa : Int) + 1) (em : σ1 mm 33 = (qm : Int) + 1) (kq : ty qa = 31) (km : ty qm = 93)
    (hF1 : sv_ofx W1 L1 ty σ σ1) (hF2 : sv_ofx W2 L2 ty σ1 σ2) (a1 : ∀ K ∈ [1, 5, 10, 93], K ∉ L1) (a2 : ∀ q ∈ [(1, 3), (5, 3), (10, 33)], q ∉ W1) (a3 : ∀ q ∈ W1, q.1 ≠ 93) (b1 : ∀ K ∈ [1, 5, 10, 31], K ∉ L2) (b2 : ∀ q ∈ [(1, 3), (5, 3), (10, 33)], q ∉ W2) (b3 : ∀ q ∈ W2, q.1 ≠ 31) (hon : 0 ≤ on ∧ on ≤ 1)
    (h1 : fq_cls σ σ1 qa a b on v1) (h2 : fq_ref σ1 σ2 qm a b on v2) : v1 = v2 ∧ lz_R ty σ2 x mm := by
  have em0 : σ mm 33 = (qm : Int) + 1 := by rw [← hF1.at hm (a1 10 (by decide)) (a2 (10, 33) (by decide))]; exact em
  have hs : ∀ j, σ1 qm j = σ qm j := fun j => hF1.atA km (a1 93 (by decide)) a3
  have hq : ∀ j, σ2 qa j = σ1 qa j := fun j => hF2.atA kq (b1 31 (by decide)) b3
  obtain ⟨g1, g2⟩ := hR bq qa qm eb eq em0
  obtain ⟨r1, r2, r3⟩ := fq_bits hon g1 g2 hs h1 h2
  refine ⟨r1, ?_⟩
  intro tq' mq' sq' e1 e2 e3
  obtain ⟨⟨f1, k1⟩, ⟨f2, k2⟩, f3, k3⟩ := lz_kept hx hm hI1 hF2 (fun K hK => b1 K (by revert hK; revert K; decide)) b2 e1 e2 e3
  obtain ⟨⟨y1, -⟩, ⟨y2, -⟩, y3, -⟩ := lz_kept hx hm hI hF1 (fun K hK => a1 K (by revert hK; revert K; decide)) a2 f1 f2 f3
  have t1 : tq' = bq := by omega
  have t3 : sq' = qm := by omega
  subst t1; subst t3
  have t2 : mq' = qa := by omega
  subst t2
  exact ⟨fun i hi => by rw [hq]; exact r2 i hi, fun i j hi hj hn => by rw [hq]; exact r3 i j hi hj hn⟩
