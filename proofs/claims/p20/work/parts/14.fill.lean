set_option maxHeartbeats 4000000 in
set_option maxRecDepth 100000 in
/-- Arrays.fill(b, v): every element of b is v, nothing else changes -/
theorem ct_fill (l : Launch) (g : sv_G) (A : Nat → Prop) (ty : Nat → Nat) (σ : Nat → Nat → Int) (hok : sv_ok ty σ) (b n : Nat) (hk : sv_kT (ty b) = some (.inr (.int, n))) (hn : n < 2147483647) (hA : A b) (v : Int) (hv : sv_in v) : sv_M l yJ7_fill_53178 cJ7_fill_53178 4 none { frames := 0, cells := 0, slots := 0, locals := 0 } g A ty σ [sv_r b, sv_i v] (fun r σ' => r = [] ∧ (∀ a, a ≠ b → ∀ k, σ' a k = σ a k) ∧ (∀ i : Nat, i < n → σ' b i = v) ∧ ∀ i : Nat, n ≤ i → σ' b i = σ b i) := by
  refine sv_enter (by decide) (Nat.le_of_ble_eq_true rfl) ?_
  intro p e s m args below meth c C hr
  have C : sv_C g A RJ7 cJ7_fill_53178 4 p s m args meth c := C
  have hr : meth.sig.returnType = none := hr
  refine sv_same (st2 := []) (lv2 := [(0, sv_r b), (1, sv_i v)]) rfl rfl ?_
  refine sv_go C.1 C.2.1 [(.iconst 0, 1), (.istore_n 2, 1), (.aload_n 0, 1)] (pc' := 3) (by decide +kernel) rfl (lv' := [(0, sv_r b), (1, sv_i v), (2, sv_i 0)]) (st' := [sv_r b]) rfl ?_
  refine sv_al C (t := .int) (Or.inl rfl) (by decide +kernel) hk ?_
  refine sv_go C.1 C.2.1 [(.istore_n 3, 1)] (pc' := 5) (by decide +kernel) rfl (lv' := [(0, sv_r b), (1, sv_i v), (2, sv_i 0), (3, sv_i (n : Int))]) (st' := []) rfl ?_
  have L1 : ∀ (j : Nat) (X : Int) (σ1 : Nat → Nat → Int), sv_ok ty σ1 → (0 ≤ X ∧ X ≤ n) → (∀ a, a ≠ b → ∀ k, σ1 a k = σ a k) → (∀ i : Nat, (i : Int) < X → σ1 b i = v) → (∀ i : Nat, n ≤ i → σ1 b i = σ b i) → (n : Int) - X < j → sv_E p l e { frames := 0, cells := 0, slots := 0, locals := 0 } s m args below meth c 4 g A ty (fun r σ' => r = [] ∧ (∀ a, a ≠ b → ∀ k, σ' a k = σ a k) ∧ (∀ i : Nat, i < n → σ' b i = v) ∧ ∀ i : Nat, n ≤ i → σ' b i = σ b i) σ1 5 [(0, sv_r b), (1, sv_i v), (2, sv_i X), (3, sv_i (n : Int))] [] := by
    intro j
    induction j with
    | zero => intro X σ1 hok1 hX hO hE hR hmu; exact absurd hmu (by omega)
    | succ j ih =>
      intro X σ1 hok1 hX hO hE hR hmu
      refine sv_go C.1 C.2.1 [(.iload_n 2, 1), (.iload_n 3, 1)] (pc' := 7) (by decide +kernel) rfl (lv' := [(0, sv_r b), (1, sv_i v), (2, sv_i X), (3, sv_i (n : Int))]) (st' := [sv_i (n : Int), sv_i X]) rfl ?_
      refine sv_icmp C.1 C.2.1 (cnd := .ge) (off := 13) (tgt := 20) (by decide +kernel) (by decide) ⟨by omega, by omega⟩ ⟨by omega, by omega⟩ (fun (h1 : (n : Int) ≤ X) => ?_) (fun (h1 : ¬ ((n : Int) ≤ X)) => ?_)
      · exact sv_vret C hr (by decide +kernel) hok1 ⟨rfl, hO, fun i hi => hE i (by omega), hR⟩
      · refine sv_go C.1 C.2.1 [(.aload_n 0, 1), (.iload_n 2, 1), (.iload_n 1, 1)] (pc' := 13) (by decide +kernel) rfl (lv' := [(0, sv_r b), (1, sv_i v), (2, sv_i X), (3, sv_i (n : Int))]) (st' := [sv_i v, sv_i X, sv_r b]) rfl ?_
        refine sv_is C (n := n) (by decide +kernel) hk (by omega) (by omega) (by omega) hv hA hok1 (fun hok2 => ?_)
        refine sv_go C.1 C.2.1 [(.iinc 2 1, 3)] (pc' := 17) (by decide +kernel) rfl (lv' := [(0, sv_r b), (1, sv_i v), (2, sv_i (X + 1)), (3, sv_i (n : Int))]) (st' := []) rfl ?_
        refine sv_goto C.1 C.2.1 (off := (-12)) (tgt := 5) (by decide +kernel) (by decide) ?_
        refine ih (X + 1) _ hok2 (by omega) (fun a ha k => by rw [sv_up_a ha]; exact hO a ha k) (fun i hi => ?_) (fun i hi => ?_) (by omega)
        · by_cases e : i = X.toNat
          · subst e; exact sv_up_s _ _ _ _
          · rw [sv_up_k e]; exact hE i (by omega)
        · rw [sv_up_k (by omega)]; exact hR i hi
  exact L1 (n + 1) 0 σ hok (by omega) (fun _ _ _ => rfl) (fun i hi => absurd hi (by omega)) (fun _ _ => rfl) (by omega)
