/-! rows for safety walks: numbers that may be too large, reads by the store's spec -/
theorem sv_wr (x : Int) : ∃ w : Int, (-2147483648 ≤ w ∧ w ≤ 2147483647) ∧ Int32.ofInt x = Int32.ofInt w :=
  ⟨(Int32.ofInt x).toInt, ⟨Int32.le_toInt _, by have := Int32.toInt_lt (Int32.ofInt x); omega⟩, (sv_io _).symm⟩
theorem sv_ioin2 (x : Int32) : -2147483648 ≤ x.toInt ∧ x.toInt ≤ 2147483647 := ⟨Int32.le_toInt x, by have := Int32.toInt_lt x; omega⟩
theorem sv_andr (x : Int) (m : Int) (h0 : 0 ≤ m) (h1 : m < 2147483648) : 0 ≤ (Int32.ofInt x &&& Int32.ofInt m).toInt ∧ (Int32.ofInt x &&& Int32.ofInt m).toInt ≤ m := by
  have hm : (Int32.ofInt m).toBitVec.toNat = m.toNat := by
    rw [show (Int32.ofInt m).toBitVec = BitVec.ofInt 32 m from rfl, BitVec.toNat_ofInt]
    omega
  have hle : ((Int32.ofInt x).toBitVec &&& (Int32.ofInt m).toBitVec).toNat ≤ m.toNat := by
    rw [BitVec.toNat_and, hm]
    exact Nat.and_le_right
  have e : (Int32.ofInt x &&& Int32.ofInt m).toInt = ((Int32.ofInt x).toBitVec &&& (Int32.ofInt m).toBitVec).toInt := by
    rw [← Int32.toInt_toBitVec, Int32.toBitVec_and]
  rw [e, BitVec.toInt_eq_toNat_of_lt (by omega)]
  omega
theorem sv_by (x : Int32) : -128 ≤ x.toInt8.toInt32.toInt ∧ x.toInt8.toInt32.toInt ≤ 127 := by
  rw [Int8.toInt_toInt32]
  have h1 := Int8.le_toInt x.toInt8
  have h2 := Int8.toInt_lt x.toInt8
  omega
theorem sv_boF {r : List sv_T} (h : sv_bo False r) : r = [sv_i 0] := by
  rcases h with ⟨h, -⟩ | ⟨-, h⟩
  · exact h.elim
  · exact h
theorem sv_tmodr (x c : Int) (hc : 0 < c) (hx : -2147483648 ≤ x ∧ x ≤ 2147483647) : ∃ w : Int, x.tmod c = w ∧ (-(c - 1) ≤ w ∧ w ≤ c - 1) := by
  have := tmod_bounds (a := x) hc
  exact ⟨_, rfl, by omega, by omega⟩
theorem sv_tdivr (x c : Int) (hc : 0 < c) (hx : -2147483648 ≤ x ∧ x ≤ 2147483647) : ∃ w : Int, x.tdiv c = w ∧ (-2147483648 ≤ w ∧ w ≤ 2147483647) := by
  have := sv_tdiv_in (x := x) (y := c) ⟨hx.1, by omega⟩ hc
  exact ⟨_, rfl, this.1, by have := this.2; omega⟩
theorem sv_rdn {sp : sv_Sp} {ty : Nat → Nat} {σ : Nat → Nat → Int} (h : sv_inv sp ty σ) {a k K : Nat} {lo hi : Int} (ha : ty a = K) (hs : sp K k = some (.inl (lo, hi))) : ∃ v : Int, σ a k = v ∧ (lo ≤ v ∧ v ≤ hi) := ⟨_, rfl, h.num ha hs⟩
theorem sv_rdz {sp : sv_Sp} {ty : Nat → Nat} {σ : Nat → Nat → Int} (h : sv_inv sp ty σ) {a k Ka K : Nat} (ha : ty a = Ka) (hs : sp Ka k = some (.inr (K, true))) : ∃ z : Int, σ a k = z ∧ (z = 0 ∨ ∃ q : Nat, z = (q : Int) + 1 ∧ ty q = K) := by
  have h1 := h a k
  rw [ha, hs] at h1
  rcases h1 with ⟨-, h2⟩ | h2
  · exact ⟨_, rfl, Or.inl h2⟩
  · exact ⟨_, rfl, Or.inr h2⟩
theorem sv_rdk {ty : Nat → Nat} {σ : Nat → Nat → Int} (h : sv_ok ty σ) {a k ci : Nat} {r : vw_C} (hk : sv_kT (ty a) = some (.inl ci)) (hr : vwCl[ci]? = some r) (hn : k < r.2.2) (ht : sv_ft ci k = .int) : ∃ v : Int, σ a k = v ∧ (-2147483648 ≤ v ∧ v ≤ 2147483647) := by
  have h1 := h.num hk hr hn
  rw [ht] at h1
  exact ⟨_, rfl, h1.1, by have := h1.2; omega⟩
theorem sv_rdkz {ty : Nat → Nat} {σ : Nat → Nat → Int} (h : sv_ok ty σ) {a k ci : Nat} {r : vw_C} (hk : sv_kT (ty a) = some (.inl ci)) (hr : vwCl[ci]? = some r) (hn : k < r.2.2) (ht : sv_ft ci k = .boolean) : ∃ v : Int, σ a k = v ∧ (0 ≤ v ∧ v ≤ 1) := by
  have h1 := h.num hk hr hn
  rw [ht] at h1
  exact ⟨_, rfl, h1⟩
theorem sv_rdl {ty : Nat → Nat} {σ : Nat → Nat → Int} (h : sv_ok ty σ) {a k ci : Nat} {r : vw_C} (hk : sv_kT (ty a) = some (.inl ci)) (hr : vwCl[ci]? = some r) (hn : k < r.2.2) (ht : sv_ft ci k = .long) : ∃ v : Int, σ a k = v ∧ sv_in64 v := by
  have h1 := h.num hk hr hn
  rw [ht] at h1
  exact ⟨_, rfl, h1⟩
theorem sv_rde {ty : Nat → Nat} {σ : Nat → Nat → Int} (h : sv_ok ty σ) {a k n : Nat} (hk : sv_kT (ty a) = some (.inr (.int, n))) (hn : k < n) : ∃ v : Int, σ a k = v ∧ (-2147483648 ≤ v ∧ v ≤ 2147483647) := by
  have h1 : sv_in (σ a k) := h.el hk hn
  exact ⟨_, rfl, h1.1, by have := h1.2; omega⟩
theorem sv_rdeb {ty : Nat → Nat} {σ : Nat → Nat → Int} (h : sv_ok ty σ) {a k n : Nat} (hk : sv_kT (ty a) = some (.inr (.byte, n))) (hn : k < n) : ∃ v : Int, σ a k = v ∧ (-128 ≤ v ∧ v ≤ 127) := ⟨_, rfl, h.el hk hn⟩
theorem sv_rdez {ty : Nat → Nat} {σ : Nat → Nat → Int} (h : sv_ok ty σ) {a k n : Nat} (hk : sv_kT (ty a) = some (.inr (.boolean, n))) (hn : k < n) : ∃ v : Int, σ a k = v ∧ (0 ≤ v ∧ v ≤ 1) := ⟨_, rfl, h.el hk hn⟩
theorem sv_monz {i : Int} (h0 : 0 ≤ i) (h1 : i < 12) : ∃ z : Int, sv_mon i.toNat = .int (Int32.ofInt z) ∧ (29 ≤ z ∧ z ≤ 31) := by
  have h : ∀ n : Nat, n < 12 → ∃ z : Int, sv_mon n = .int (Int32.ofInt z) ∧ (29 ≤ z ∧ z ≤ 31) := by
    intro n hn
    match n, hn with
    | 0, _ => exact ⟨31, rfl, by decide⟩
    | 1, _ => exact ⟨29, rfl, by decide⟩
    | 2, _ => exact ⟨31, rfl, by decide⟩
    | 3, _ => exact ⟨30, rfl, by decide⟩
    | 4, _ => exact ⟨31, rfl, by decide⟩
    | 5, _ => exact ⟨30, rfl, by decide⟩
    | 6, _ => exact ⟨31, rfl, by decide⟩
    | 7, _ => exact ⟨31, rfl, by decide⟩
    | 8, _ => exact ⟨30, rfl, by decide⟩
    | 9, _ => exact ⟨31, rfl, by decide⟩
    | 10, _ => exact ⟨30, rfl, by decide⟩
    | 11, _ => exact ⟨31, rfl, by decide⟩
    | n + 12, hn => omega
  exact h i.toNat (by omega)
theorem sv_mstz {i : Int} (h0 : 0 ≤ i) (h1 : i < 12) : ∃ z : Int, sv_mst i.toNat = .int (Int32.ofInt z) ∧ (0 ≤ z ∧ z ≤ 334) := by
  have h : ∀ n : Nat, n < 12 → ∃ z : Int, sv_mst n = .int (Int32.ofInt z) ∧ (0 ≤ z ∧ z ≤ 334) := by
    intro n hn
    match n, hn with
    | 0, _ => exact ⟨0, rfl, by decide⟩
    | 1, _ => exact ⟨31, rfl, by decide⟩
    | 2, _ => exact ⟨59, rfl, by decide⟩
    | 3, _ => exact ⟨90, rfl, by decide⟩
    | 4, _ => exact ⟨120, rfl, by decide⟩
    | 5, _ => exact ⟨151, rfl, by decide⟩
    | 6, _ => exact ⟨181, rfl, by decide⟩
    | 7, _ => exact ⟨212, rfl, by decide⟩
    | 8, _ => exact ⟨243, rfl, by decide⟩
    | 9, _ => exact ⟨273, rfl, by decide⟩
    | 10, _ => exact ⟨304, rfl, by decide⟩
    | 11, _ => exact ⟨334, rfl, by decide⟩
    | n + 12, hn => omega
  exact h i.toNat (by omega)
theorem sv_inv.fill {sp : sv_Sp} {ty : Nat → Nat} {σ σ' : Nat → Nat → Int} {b n : Nat} {v : Int} (h : sv_inv sp ty σ) (hs : ∀ k, sv_sat ty (sp (ty b) k) v) (h1 : ∀ a, a ≠ b → ∀ k, σ' a k = σ a k) (h2 : ∀ i : Nat, i < n → σ' b i = v) (h3 : ∀ i : Nat, n ≤ i → σ' b i = σ b i) : sv_inv sp ty σ' := by
  intro a k
  by_cases e : a = b
  · subst e
    by_cases q : k < n
    · rw [h2 k q]; exact hs k
    · rw [h3 k (by omega)]; exact h a k
  · rw [h1 a e k]; exact h a k
/-- what stays: all but the kinds of L and the fields of W -/
def sv_ofx (W : List (Nat × Nat)) (L : List Nat) (ty : Nat → Nat) (σ σ' : Nat → Nat → Int) : Prop := ∀ a k, ty a ∉ L → (ty a, k) ∉ W → σ' a k = σ a k
theorem sv_ofx.rf {W : List (Nat × Nat)} {L : List Nat} {ty : Nat → Nat} {σ : Nat → Nat → Int} : sv_ofx W L ty σ σ := fun _ _ _ _ => rfl
theorem sv_ofx.up {W : List (Nat × Nat)} {L : List Nat} {ty : Nat → Nat} {σ0 σ : Nat → Nat → Int} (h : sv_ofx W L ty σ0 σ) {a k : Nat} {z : Int} (hk : ty a ∈ L ∨ (ty a, k) ∈ W) : sv_ofx W L ty σ0 (sv_up σ a k z) := fun b j hb hw => by
  rw [show sv_up σ a k z b j = σ b j from if_neg (fun e => by
    rcases hk with hk | hk
    · exact hb (by rw [e.1]; exact hk)
    · exact hw (by rw [e.1, e.2]; exact hk))]
  exact h b j hb hw
theorem sv_ofx.tr {W W2 : List (Nat × Nat)} {L L2 : List Nat} {ty : Nat → Nat} {σ0 σ σ' : Nat → Nat → Int} (h : sv_ofx W L ty σ0 σ) (h2 : sv_ofx W2 L2 ty σ σ') (hl : ∀ x ∈ L2, x ∈ L) (hw : ∀ x ∈ W2, x ∈ W) : sv_ofx W L ty σ0 σ' := fun b j hb hv => (h2 b j (fun q => hb (hl _ q)) (fun q => hv (hw _ q))).trans (h b j hb hv)
theorem sv_ofx.at {W : List (Nat × Nat)} {L : List Nat} {ty : Nat → Nat} {σ σ' : Nat → Nat → Int} (h : sv_ofx W L ty σ σ') {a k K : Nat} (ha : ty a = K) (hK : K ∉ L) (hW : (K, k) ∉ W) : σ' a k = σ a k := h a k (by rw [ha]; exact hK) (by rw [ha]; exact hW)
theorem sv_ofx.atA {W : List (Nat × Nat)} {L : List Nat} {ty : Nat → Nat} {σ σ' : Nat → Nat → Int} (h : sv_ofx W L ty σ σ') {a k K : Nat} (ha : ty a = K) (hK : K ∉ L) (hW : ∀ q ∈ W, q.1 ≠ K) : σ' a k = σ a k := h a k (by rw [ha]; exact hK) (fun q => hW _ q ha)
theorem sv_ofx.fill {W : List (Nat × Nat)} {L : List Nat} {ty : Nat → Nat} {σ0 σ σ' : Nat → Nat → Int} {b : Nat} (h : sv_ofx W L ty σ0 σ) (hb : ty b ∈ L) (h1 : ∀ a, a ≠ b → ∀ k, σ' a k = σ a k) : sv_ofx W L ty σ0 σ' := fun a k ha hw => by
  rw [h1 a (fun e => ha (by rw [e]; exact hb)) k]; exact h a k ha hw
section SVSF
variable {p : Program} {l : Launch} {e : Env} {R : Room} {s : State} {m : MethodId} {args : Array Value} {below : List Frame} {meth : Method} {c : Code} {cells slots : Nat} {Q : State → Prop}
variable {cc : ByteArray} {pc nL : Nat} {Hp : Heap → Prop} {A : Nat → Prop} {lv : sv_L} {st rest : List sv_T}
theorem sv_sameD {st2 : List sv_T} {lv2 : sv_L} (h1 : st.map sv_den = st2.map sv_den) (h2 : sv_lm lv = sv_lm lv2) (k : sv_V p l e R s m args below meth c nL A cells slots Q Hp pc lv2 st2) : sv_V p l e R s m args below meth c nL A cells slots Q Hp pc lv st := by
  intro H locs ls hH hS hl
  rw [h1]
  rw [h2] at hl
  exact k H locs ls hH hS hl
theorem sv_w64 (x : Int64) : sv_in64 x.toInt := ⟨Int64.le_toInt x, Int64.toInt_lt x⟩
theorem sv_l2i (hx : p.tables.exec = Jvm.exec) (hb : c.code = cc) {x : Int} (hd : decode cc pc = .ok (.l2i, 1)) (k : ∀ w : Int, (-2147483648 ≤ w ∧ w ≤ 2147483647) → sv_V p l e R s m args below meth c nL A cells slots Q Hp (pc + 1) lv (sv_i w :: rest)) : sv_V p l e R s m args below meth c nL A cells slots Q Hp pc lv (sv_l x :: rest) := by
  intro H locs ls hH hS hl
  refine lv_l2i hx hb hd rfl ?_
  have := k _ (sv_ioin2 (Int64.ofInt x).toInt32) H locs ls hH hS hl
  rw [List.map_cons, sv_den_i, sv_io] at this
  exact this
theorem sv_land (hx : p.tables.exec = Jvm.exec) (hb : c.code = cc) {x y : Int} (hd : decode cc pc = .ok (.land, 1)) (k : ∀ w : Int, sv_in64 w → sv_V p l e R s m args below meth c nL A cells slots Q Hp (pc + 1) lv (sv_l w :: rest)) : sv_V p l e R s m args below meth c nL A cells slots Q Hp pc lv (sv_l y :: sv_l x :: rest) := by
  intro H locs ls hH hS hl
  refine lv_land hx hb hd ?_
  have := k _ (sv_w64 (Int64.ofInt x &&& Int64.ofInt y)) H locs ls hH hS hl
  rw [List.map_cons, sv_den_l, Int64.ofInt_toInt] at this
  exact this
theorem sv_lor (hx : p.tables.exec = Jvm.exec) (hb : c.code = cc) {x y : Int} (hd : decode cc pc = .ok (.lor, 1)) (k : ∀ w : Int, sv_in64 w → sv_V p l e R s m args below meth c nL A cells slots Q Hp (pc + 1) lv (sv_l w :: rest)) : sv_V p l e R s m args below meth c nL A cells slots Q Hp pc lv (sv_l y :: sv_l x :: rest) := by
  intro H locs ls hH hS hl
  refine lv_lor hx hb hd ?_
  have := k _ (sv_w64 (Int64.ofInt x ||| Int64.ofInt y)) H locs ls hH hS hl
  rw [List.map_cons, sv_den_l, Int64.ofInt_toInt] at this
  exact this
theorem sv_lshl (hx : p.tables.exec = Jvm.exec) (hb : c.code = cc) {x y : Int} (hd : decode cc pc = .ok (.lshl, 1)) (k : ∀ w : Int, sv_in64 w → sv_V p l e R s m args below meth c nL A cells slots Q Hp (pc + 1) lv (sv_l w :: rest)) : sv_V p l e R s m args below meth c nL A cells slots Q Hp pc lv (sv_i y :: sv_l x :: rest) := by
  intro H locs ls hH hS hl
  refine lv_lshl hx hb hd rfl ?_
  have := k _ (sv_w64 (Int64.ofInt x <<< ((Int32.ofInt y).toInt64 &&& 63))) H locs ls hH hS hl
  rw [List.map_cons, sv_den_l, Int64.ofInt_toInt] at this
  exact this
theorem sv_lshr (hx : p.tables.exec = Jvm.exec) (hb : c.code = cc) {x y : Int} (hd : decode cc pc = .ok (.lshr, 1)) (k : ∀ w : Int, sv_in64 w → sv_V p l e R s m args below meth c nL A cells slots Q Hp (pc + 1) lv (sv_l w :: rest)) : sv_V p l e R s m args below meth c nL A cells slots Q Hp pc lv (sv_i y :: sv_l x :: rest) := by
  intro H locs ls hH hS hl
  refine lv_lshr hx hb hd rfl ?_
  have := k _ (sv_w64 (Int64.ofInt x >>> ((Int32.ofInt y).toInt64 &&& 63))) H locs ls hH hS hl
  rw [List.map_cons, sv_den_l, Int64.ofInt_toInt] at this
  exact this
end SVSF
