/-! strings: the literals, String.length, String.charAt -/
section SVST
variable {p : Program} {l : Launch} {e : Env} {R : Room} {s : State} {m : MethodId} {args : Array Value} {below : List Frame} {meth : Method} {c : Code} {cells slots : Nat} {Q : State → Prop}
variable {cc : ByteArray} {pc nL : Nat} {A : Nat → Prop} {lv lv' : sv_L} {st st' rest : List sv_T} {g : sv_G} {own : String} {ty : Nat → Nat} {σ : Nat → Nat → Int} {Hp : Heap → Prop}
theorem sv_S0 (C : sv_C g A own cc nL p s m args meth c) : sv_KS g A s := C.2.2.2.2.2.1.2.2.2.2.2
theorem sq_ldc (C : sv_C g A own cc nL p s m args meth c) {index : Nat} {tx : String} (i : Nat) (hi : i < 23) (hq : sq_L[i]? = some (own, index, tx)) (hd : decode cc pc = .ok (.ldc index, 2)) (k : sv_V p l e R s m args below meth c nL A cells slots Q Hp (pc + 2) lv (sv_r (g.2.2.2.2.1 i) :: st)) : sv_V p l e R s m args below meth c nL A cells slots Q Hp pc lv st :=
  fun H locs ls hH hS hl => va_ldcS C.1 C.2.1 C.2.2.2.1 (((sv_S0 C).1 i hi).1 _ hq) hd (k H locs ls hH hS hl)
theorem sq_gfv (C : sv_C g A own cc nL p s m args meth c) {index i : Nat} (hi : i < 23) (hd : decode cc pc = .ok (.getfield index, 3)) (hw : Cond.fieldLink own index "java/lang/String" "value" "[B" ∈ lw_good) (k : sv_V p l e R s m args below meth c nL A cells slots Q Hp (pc + 3) lv (sv_r (g.2.2.2.2.2 i) :: rest)) : sv_V p l e R s m args below meth c nL A cells slots Q Hp pc lv (sv_r (g.2.2.2.2.1 i) :: rest) :=
  fun H locs ls hH hS hl => vk_getf C.1 C.2.1 ((sv_S0 C).1 i hi).2.2.2.1 hS C.2.2.2.1 (C.2.2.2.2.1 _ hw) (fun _ h => h) hd (k H locs ls hH hS hl)
theorem sq_gfc (C : sv_C g A own cc nL p s m args meth c) {index i : Nat} (hi : i < 23) (hd : decode cc pc = .ok (.getfield index, 3)) (hw : Cond.fieldLink own index "java/lang/String" "coder" "B" ∈ lw_good) (k : sv_V p l e R s m args below meth c nL A cells slots Q Hp (pc + 3) lv (sv_i 0 :: rest)) : sv_V p l e R s m args below meth c nL A cells slots Q Hp pc lv (sv_r (g.2.2.2.2.1 i) :: rest) :=
  fun H locs ls hH hS hl => vk_getf C.1 C.2.1 ((sv_S0 C).1 i hi).2.2.1 hS C.2.2.2.1 (C.2.2.2.2.1 _ hw) (fun _ h => h) hd (k H locs ls hH hS hl)
theorem sq_gs (C : sv_C g A own cc nL p s m args meth c) {index : Nat} (hd : decode cc pc = .ok (.getstatic index, 3)) (hw : Cond.fieldLink own index "java/lang/String" "COMPACT_STRINGS" "Z" ∈ lw_good) (k : sv_V p l e R s m args below meth c nL A cells slots Q Hp (pc + 3) lv (sv_i 1 :: st)) : sv_V p l e R s m args below meth c nL A cells slots Q Hp pc lv st :=
  fun H locs ls hH hS hl => va_gets C.1 C.2.1 (sv_S0 C).2.1 hS C.2.2.2.1 (C.2.2.2.2.1 _ hw) (fun _ h => h) hd (k H locs ls hH hS hl)
theorem sq_gq (C : sv_C g A own cc nL p s m args meth c) {index : Nat} (hd : decode cc pc = .ok (.getstatic index, 3)) (hw : Cond.fieldLink own index "jdk/internal/util/Preconditions" "SIOOBE_FORMATTER" "Ljava/util/function/BiFunction;" ∈ lw_good) (kk : ∀ z : Int, sv_V p l e R s m args below meth c nL A cells slots Q Hp (pc + 3) lv (sv_a z :: st)) : sv_V p l e R s m args below meth c nL A cells slots Q Hp pc lv st := by
  rcases (sv_S0 C).2.2 with h | ⟨t, h⟩
  · exact fun H locs ls hH hS hl => va_gets C.1 C.2.1 h hS C.2.2.2.1 (C.2.2.2.2.1 _ hw) (fun _ h => h) hd (kk 0 H locs ls hH hS hl)
  · intro H locs ls hH hS hl
    have hk := kk ((t : Int) + 1) H locs ls hH hS hl
    rw [List.map_cons, show sv_den (sv_a ((t : Int) + 1)) = .ref t from rfl] at hk
    exact va_gets C.1 C.2.1 h hS C.2.2.2.1 (C.2.2.2.2.1 _ hw) (fun _ h => h) hd hk
theorem sq_len (C : sv_C g A own cc nL p s m args meth c) {i : Nat} (hi : i < 23) (hd : decode cc pc = .ok (.arraylength, 1)) (k : sv_V p l e R s m args below meth c nL A cells slots Q Hp (pc + 1) lv (sv_i (sq_n i : Int) :: rest)) : sv_V p l e R s m args below meth c nL A cells slots Q Hp pc lv (sv_r (g.2.2.2.2.2 i) :: rest) := by
  intro H locs ls hH hS hl
  obtain ⟨f, hf⟩ := ((sv_S0 C).1 i hi).2.2.2.2
  exact va_tlen C.1 C.2.1 hf hS rfl hd (k H locs ls hH hS hl)
theorem sq_ba (C : sv_C g A own cc nL p s m args meth c) {i : Nat} (hi : i < 23) {j : Int} (h0 : 0 ≤ j) (h1 : j < sq_n i) (hd : decode cc pc = .ok (.baload, 1)) (k : ∀ z : Int, (-2147483648 ≤ z ∧ z ≤ 2147483647) → sv_V p l e R s m args below meth c nL A cells slots Q Hp (pc + 1) lv (sv_i z :: rest)) : sv_V p l e R s m args below meth c nL A cells slots Q Hp pc lv (.inl j :: sv_r (g.2.2.2.2.2 i) :: rest) := by
  intro H locs ls hH hS hl
  obtain ⟨f, hf⟩ := ((sv_S0 C).1 i hi).2.2.2.2
  have hn := sq_n_in i
  obtain ⟨e1, e2⟩ := sv_idx (n := sq_n i) h0 h1 (by omega)
  have hk := k (f j.toNat).toInt (sv_ioin2 _) H locs ls hH hS hl
  rw [List.map_cons, sv_den_i, sv_io] at hk
  exact va_tb C.1 C.2.1 hf hS e1 (v := .int (f j.toNat)) (by rw [e2]) hd hk
theorem sq_i2c (hx : p.tables.exec = Jvm.exec) (hb : c.code = cc) {x : Int} (h : 0 ≤ x ∧ x ≤ 255) (hd : decode cc pc = .ok (.i2c, 1)) (k : sv_V p l e R s m args below meth c nL A cells slots Q Hp (pc + 1) lv (sv_i x :: rest)) : sv_V p l e R s m args below meth c nL A cells slots Q Hp pc lv (.inl x :: rest) := by
  intro H locs ls hH hS hl
  refine lv_i2c hx hb hd (v := Int32.ofInt x) ?_ (k H locs ls hH hS hl)
  have key : ∀ n : Nat, n < 256 → ((Int32.ofInt (n : Int)).toUInt32 % 65536).toInt32 = Int32.ofInt (n : Int) := by decide +kernel
  have := key x.toNat (by omega)
  rw [show ((x.toNat : Nat) : Int) = x by omega] at this
  exact this
theorem sq_recv (C : sv_C g A own cc nL p s m args meth c) {i : Nat} (hi : i < 23) {H : Heap} {locs : List Loc} (hS : va_S A s.heap H locs) : ∃ cell : Cell, H[g.2.2.2.2.1 i]? = some cell ∧ cell.vm.isStatics = false ∧ s.vm.findClass "java/lang/String" = some cell.cls := by
  obtain ⟨cell, h1, h2, h3, -⟩ := ((sv_S0 C).1 i hi).2.1.kept hS.2.1
  exact ⟨cell, h1, h2, h3⟩
/-- a call of a method of String -/
theorem sq_cv (C : sv_C g A own cc nL p s m args meth c) {y : MethodName} {bytes : ByteArray} {n : Nat} {ret : Option FieldType} {fr lo k index i : Nat} (hi0 : i < 23) {as : List sv_T} {po' : List sv_T → (Nat → Nat → Int) → Prop} (hd : decode cc pc = .ok (.invokevirtual index, 3)) (hM : sv_M l y bytes n ret { frames := fr, cells := 0, slots := 0, locals := lo } g A ty σ (sv_r (g.2.2.2.2.1 i) :: as) po') (hb : sv_cb R y bytes n ret fr lo k) (hl : Cond.methodLink own index y ∈ lw_good) (hi : Cond.instanceMethod y ∈ lw_good) (hs : Cond.selects "java/lang/String" y y ∈ lw_good) (hn : as.length = k) (hst : st = as.reverse ++ sv_r (g.2.2.2.2.1 i) :: rest) (hrm : (rest.map fun v => (sv_den v).category).sum ≤ 8) (hcs : cells ≤ R.cells ∧ slots ≤ R.slots)
    (kk : ∀ (r : List sv_T) (σ' : Nat → Nat → Int), po' r σ' → sv_ok ty σ' → sv_V p l e R s m args below meth c nL A cells slots Q (sv_H g ty σ') (pc + 3) lv (r ++ rest)) : sv_V p l e R s m args below meth c nL A cells slots Q (sv_H g ty σ) pc lv st := by
  intro H locs ls hH hS hll
  subst hst
  refine sv_cont (mc0 := 0) (pc0 := 0) (va_runV (b := g.2.2.2.2.1 i) (As := as.map sv_den) ⟨C.1, C.2.1, C.2.2.1, C.2.2.2.1, C.2.2.2.2.1⟩ hM ⟨sv_cB C hb hl, C.2.2.2.2.1 _ hi, C.2.2.2.2.1 _ hs⟩ ⟨sv_Pblind, sq_recv C hi0 hS, fun U hU hW => sv_Pat (av := sv_r (g.2.2.2.2.1 i) :: as) C.2.2.2.2.2.1 hH hS U hU hW⟩ rfl (by rw [List.length_map]; exact hn) hll.1 (by simp [sv_den_r]) (sv_room hrm) hd hcs) hS hll kk
variable {po : List sv_T → (Nat → Nat → Int) → Prop}
theorem sq_nret (C : sv_C g A own cc nL p s m args meth c) {t : FieldType} (hr : meth.sig.returnType = some t) {x : Int} (hx : narrow t (.int (Int32.ofInt x)) = .int (Int32.ofInt x)) (hd : decode cc pc = .ok (.ireturn, 1)) (hok : sv_ok ty σ) (hpo : po [sv_i x] σ) : sv_E p l e R s m args below meth c nL g A ty po σ pc lv [sv_i x] :=
  fun H locs ls hH hS hl => W.zret C.1 C.2.1 hr hx (fun t ht _ => sv_qq (r := [sv_i x]) hok (Nat.le_refl 1) hpo hH hS t ht) hS.2.2 hd C.2.2.2.2.2.2
end SVST
theorem fl_J0_9 : Cond.fieldLink RJ0 9 "java/lang/String" "value" "[B" ∈ lw_good := sv_mem 1513 (by decide +kernel) rfl
theorem fl_J0_15 : Cond.fieldLink RJ0 15 "java/lang/String" "coder" "B" ∈ lw_good := sv_mem 1514 (by decide +kernel) rfl
theorem fl_J0_38 : Cond.fieldLink RJ0 38 "java/lang/String" "COMPACT_STRINGS" "Z" ∈ lw_good := sv_mem 501 (by decide +kernel) rfl
theorem fl_J0_1053 : Cond.fieldLink RJ0 1053 "jdk/internal/util/Preconditions" "SIOOBE_FORMATTER" "Ljava/util/function/BiFunction;" ∈ lw_good := sv_mem 517 (by decide +kernel) rfl
theorem ml_J0_335 : Cond.methodLink RJ0 335 yJ0_coder_7d493 ∈ lw_good := sv_mem 497 (by decide +kernel) rfl
theorem ml_J0_492 : Cond.methodLink RJ0 492 yJ0_isLatin1_aae02 ∈ lw_good := sv_mem 507 (by decide +kernel) rfl
theorem ml_J0_495 : Cond.methodLink RJ0 495 yJ1_charAt_3b067 ∈ lw_good := sv_mem 511 (by decide +kernel) rfl
theorem ml_J1_9 : Cond.methodLink RJ1 9 yJ0_checkIndex_df160 ∈ lw_good := sv_mem 514 (by decide +kernel) rfl
theorem ml_J0_1059 : Cond.methodLink RJ0 1059 yJ3_checkIndex_8e157 ∈ lw_good := sv_mem 519 (by decide +kernel) rfl
theorem co_J0_length_8abf5 : Cond.code yJ0_length_8abf5 cJ0_length_8abf5 1 (some .int) ∈ lw_good := sv_mem 496 (by decide +kernel) rfl
theorem im_J0_length_8abf5 : Cond.instanceMethod yJ0_length_8abf5 ∈ lw_good := sv_mem 494 (by decide +kernel) rfl
theorem se_J0_length_8abf5 : Cond.selects RJ0 yJ0_length_8abf5 yJ0_length_8abf5 ∈ lw_good := sv_mem 495 (by decide +kernel) rfl
theorem co_J0_charAt_5068e : Cond.code yJ0_charAt_5068e cJ0_charAt_5068e 2 (some .char) ∈ lw_good := sv_mem 506 (by decide +kernel) rfl
theorem im_J0_charAt_5068e : Cond.instanceMethod yJ0_charAt_5068e ∈ lw_good := sv_mem 504 (by decide +kernel) rfl
theorem se_J0_charAt_5068e : Cond.selects RJ0 yJ0_charAt_5068e yJ0_charAt_5068e ∈ lw_good := sv_mem 505 (by decide +kernel) rfl
theorem co_J0_coder_7d493 : Cond.code yJ0_coder_7d493 cJ0_coder_7d493 1 (some .byte) ∈ lw_good := sv_mem 500 (by decide +kernel) rfl
theorem im_J0_coder_7d493 : Cond.instanceMethod yJ0_coder_7d493 ∈ lw_good := sv_mem 498 (by decide +kernel) rfl
theorem se_J0_coder_7d493 : Cond.selects RJ0 yJ0_coder_7d493 yJ0_coder_7d493 ∈ lw_good := sv_mem 499 (by decide +kernel) rfl
theorem co_J0_isLatin1_aae02 : Cond.code yJ0_isLatin1_aae02 cJ0_isLatin1_aae02 1 (some .boolean) ∈ lw_good := sv_mem 510 (by decide +kernel) rfl
theorem im_J0_isLatin1_aae02 : Cond.instanceMethod yJ0_isLatin1_aae02 ∈ lw_good := sv_mem 508 (by decide +kernel) rfl
theorem se_J0_isLatin1_aae02 : Cond.selects RJ0 yJ0_isLatin1_aae02 yJ0_isLatin1_aae02 ∈ lw_good := sv_mem 509 (by decide +kernel) rfl
theorem co_J0_checkIndex_df160 : Cond.code yJ0_checkIndex_df160 cJ0_checkIndex_df160 2 none ∈ lw_good := sv_mem 516 (by decide +kernel) rfl
theorem st_J0_checkIndex_df160 : Cond.static yJ0_checkIndex_df160 ∈ lw_good := sv_mem 515 (by decide +kernel) rfl
theorem co_J1_charAt_3b067 : Cond.code yJ1_charAt_3b067 cJ1_charAt_3b067 2 (some .char) ∈ lw_good := sv_mem 513 (by decide +kernel) rfl
theorem st_J1_charAt_3b067 : Cond.static yJ1_charAt_3b067 ∈ lw_good := sv_mem 512 (by decide +kernel) rfl
theorem co_J3_checkIndex_8e157 : Cond.code yJ3_checkIndex_8e157 cJ3_checkIndex_8e157 3 (some .int) ∈ lw_good := sv_mem 521 (by decide +kernel) rfl
theorem st_J3_checkIndex_8e157 : Cond.static yJ3_checkIndex_8e157 ∈ lw_good := sv_mem 520 (by decide +kernel) rfl
theorem in_J0 : Cond.initialized RJ0 ∈ lw_good := sv_mem 86 (by decide +kernel) rfl
theorem in_J1 : Cond.initialized RJ1 ∈ lw_good := sv_mem 87 (by decide +kernel) rfl
theorem in_J3 : Cond.initialized RJ3 ∈ lw_good := sv_mem 88 (by decide +kernel) rfl
set_option maxHeartbeats 4000000 in
set_option maxRecDepth 100000 in
theorem sq_coder (l : Launch) (g : sv_G) (A : Nat → Prop) (ty : Nat → Nat) (σ : Nat → Nat → Int) (hok : sv_ok ty σ) (i : Nat) (hi : i < 23) : sv_M l yJ0_coder_7d493 cJ0_coder_7d493 1 (some .byte) { frames := 0, cells := 0, slots := 0, locals := 0 } g A ty σ [sv_r (g.2.2.2.2.1 i)] (fun r σ' => σ = σ' ∧ r = [sv_i 0]) := by
  refine sv_enter (by decide) (Nat.le_of_ble_eq_true rfl) ?_
  intro p e s m args below meth c C hr
  have C : sv_C g A RJ0 cJ0_coder_7d493 1 p s m args meth c := C
  refine sv_same (st2 := []) (lv2 := [(0, sv_r (g.2.2.2.2.1 i))]) rfl rfl ?_
  refine sq_gs C (index := 38) (by decide +kernel) fl_J0_38 ?_
  refine sv_if_f C.1 C.2.1 (cnd := .eq) (off := 10) (tgt := 13) (by decide +kernel) (by decide) ⟨by omega, by omega⟩ (show ¬ ((1 : Int) = 0) by omega) ?_
  refine sv_go C.1 C.2.1 [(.aload_n 0, 1)] (pc' := 7) (by decide +kernel) rfl (lv' := [(0, sv_r (g.2.2.2.2.1 i))]) (st' := [sv_r (g.2.2.2.2.1 i)]) rfl ?_
  refine sq_gfc C hi (index := 15) (by decide +kernel) fl_J0_15 ?_
  refine sv_goto C.1 C.2.1 (off := 4) (tgt := 14) (by decide +kernel) (by decide) ?_
  exact sq_nret C (t := .byte) hr (by decide) (by decide +kernel) hok ⟨rfl, rfl⟩
set_option maxHeartbeats 4000000 in
set_option maxRecDepth 100000 in
theorem sq_isLatin1 (l : Launch) (g : sv_G) (A : Nat → Prop) (ty : Nat → Nat) (σ : Nat → Nat → Int) (hok : sv_ok ty σ) (i : Nat) (hi : i < 23) : sv_M l yJ0_isLatin1_aae02 cJ0_isLatin1_aae02 1 (some .boolean) { frames := 0, cells := 0, slots := 0, locals := 0 } g A ty σ [sv_r (g.2.2.2.2.1 i)] (fun r σ' => σ = σ' ∧ r = [sv_i 1]) := by
  refine sv_enter (by decide) (Nat.le_of_ble_eq_true rfl) ?_
  intro p e s m args below meth c C hr
  have C : sv_C g A RJ0 cJ0_isLatin1_aae02 1 p s m args meth c := C
  refine sv_same (st2 := []) (lv2 := [(0, sv_r (g.2.2.2.2.1 i))]) rfl rfl ?_
  refine sq_gs C (index := 38) (by decide +kernel) fl_J0_38 ?_
  refine sv_if_f C.1 C.2.1 (cnd := .eq) (off := 14) (tgt := 17) (by decide +kernel) (by decide) ⟨by omega, by omega⟩ (show ¬ ((1 : Int) = 0) by omega) ?_
  refine sv_go C.1 C.2.1 [(.aload_n 0, 1)] (pc' := 7) (by decide +kernel) rfl (lv' := [(0, sv_r (g.2.2.2.2.1 i))]) (st' := [sv_r (g.2.2.2.2.1 i)]) rfl ?_
  refine sq_gfc C hi (index := 15) (by decide +kernel) fl_J0_15 ?_
  refine sv_if_f C.1 C.2.1 (cnd := .ne) (off := 7) (tgt := 17) (by decide +kernel) (by decide) ⟨by omega, by omega⟩ (show ¬ ((0 : Int) ≠ 0) by omega) ?_
  refine sv_go C.1 C.2.1 [(.iconst 1, 1)] (pc' := 14) (by decide +kernel) rfl (lv' := [(0, sv_r (g.2.2.2.2.1 i))]) (st' := [sv_i 1]) rfl ?_
  refine sv_goto C.1 C.2.1 (off := 4) (tgt := 18) (by decide +kernel) (by decide) ?_
  exact sv_zret C hr (Or.inr rfl) (by decide +kernel) hok ⟨rfl, rfl⟩
set_option maxHeartbeats 4000000 in
set_option maxRecDepth 100000 in
/-- String.length() of a literal -/
theorem sq_length (l : Launch) (g : sv_G) (A : Nat → Prop) (ty : Nat → Nat) (σ : Nat → Nat → Int) (hok : sv_ok ty σ) (i : Nat) (hi : i < 23) : sv_M l yJ0_length_8abf5 cJ0_length_8abf5 1 (some .int) { frames := 1, cells := 0, slots := 0, locals := 20 } g A ty σ [sv_r (g.2.2.2.2.1 i)] (fun r σ' => σ = σ' ∧ r = [sv_i (sq_n i : Int)]) := by
  refine sv_enter (by decide) (Nat.le_of_ble_eq_true rfl) ?_
  intro p e s m args below meth c C hr
  have C : sv_C g A RJ0 cJ0_length_8abf5 1 p s m args meth c := C
  have hr : meth.sig.returnType = (some .int) := hr
  refine sv_same (st2 := []) (lv2 := [(0, sv_r (g.2.2.2.2.1 i))]) rfl rfl ?_
  refine sv_go C.1 C.2.1 [(.aload_n 0, 1)] (pc' := 1) (by decide +kernel) rfl (lv' := [(0, sv_r (g.2.2.2.2.1 i))]) (st' := [sv_r (g.2.2.2.2.1 i)]) rfl ?_
  refine sq_gfv C hi (index := 9) (by decide +kernel) fl_J0_9 ?_
  refine sq_len C hi (by decide +kernel) ?_
  refine sv_go C.1 C.2.1 [(.aload_n 0, 1)] (pc' := 6) (by decide +kernel) rfl (lv' := [(0, sv_r (g.2.2.2.2.1 i))]) (st' := [sv_r (g.2.2.2.2.1 i), sv_i (sq_n i : Int)]) rfl ?_
  refine sq_cv C hi (index := 335) (k := 0) (as := []) (rest := [sv_i (sq_n i : Int)]) (by decide +kernel) (sq_coder l g A ty σ hok i hi) ⟨co_J0_coder_7d493, in_J0, ⟨by decide, by decide, by decide +kernel⟩, Nat.le_of_ble_eq_true rfl, Nat.le_of_ble_eq_true rfl⟩ ml_J0_335 im_J0_coder_7d493 se_J0_coder_7d493 rfl rfl (Nat.le_of_ble_eq_true rfl) ⟨Nat.zero_le _, Nat.zero_le _⟩ (fun r σ1 hp hok1 => ?_)
  obtain ⟨rfl, rfl⟩ := hp
  refine sv_same (st2 := [sv_i 0, sv_i (sq_n i : Int)]) (lv2 := [(0, sv_r (g.2.2.2.2.1 i))]) rfl rfl ?_
  refine sv_go C.1 C.2.1 [(.ishr, 1)] (pc' := 10) (by decide +kernel) rfl (lv' := [(0, sv_r (g.2.2.2.2.1 i))]) (st' := [sv_i (Int32.ofInt (sq_n i : Int) >>> (Int32.ofInt 0 &&& 31)).toInt]) rfl ?_
  have hsh : (Int32.ofInt (sq_n i : Int) >>> (Int32.ofInt 0 &&& 31)).toInt = (sq_n i : Int) := by
    have key : ∀ n : Nat, n < 13 → (Int32.ofInt (n : Int) >>> (Int32.ofInt 0 &&& 31)).toInt = (n : Int) := by decide +kernel
    exact key _ (by have := sq_n_in i; omega)
  refine sv_same (st2 := [sv_i (sq_n i : Int)]) (lv2 := [(0, sv_r (g.2.2.2.2.1 i))]) (by rw [hsh]) rfl ?_
  exact sv_iret C hr (by decide +kernel) hok1 ⟨rfl, rfl⟩
set_option maxHeartbeats 4000000 in
set_option maxRecDepth 100000 in
theorem sq_pc (l : Launch) (g : sv_G) (A : Nat → Prop) (ty : Nat → Nat) (σ : Nat → Nat → Int) (hok : sv_ok ty σ) (j n : Int) (hj : 0 ≤ j ∧ j < n) (hn : n ≤ 12) (z : Int) : sv_M l yJ3_checkIndex_8e157 cJ3_checkIndex_8e157 3 (some .int) { frames := 0, cells := 0, slots := 0, locals := 0 } g A ty σ [sv_i j, sv_i n, sv_a z] (fun r σ' => σ = σ' ∧ r = [sv_i j]) := by
  refine sv_enter (by decide) (by rcases sv_rf_or z with h | ⟨a, h⟩ <;> simp only [List.map_cons, List.map_nil, sv_den_a, sv_den_i, h] <;> exact Nat.le_of_ble_eq_true rfl) ?_
  intro p e s m args below meth c C hr
  have C : sv_C g A RJ3 cJ3_checkIndex_8e157 3 p s m args meth c := C
  have hr : meth.sig.returnType = (some .int) := hr
  refine sv_same (st2 := []) (lv2 := [(0, sv_i j), (1, sv_i n), (2, sv_a z)]) rfl rfl ?_
  refine sv_go C.1 C.2.1 [(.iload_n 0, 1)] (pc' := 1) (by decide +kernel) rfl (lv' := [(0, sv_i j), (1, sv_i n), (2, sv_a z)]) (st' := [sv_i j]) rfl ?_
  refine sv_if_f C.1 C.2.1 (cnd := .lt) (off := 8) (tgt := 9) (by decide +kernel) (by decide) ⟨by omega, by omega⟩ (show ¬ (j < 0) by omega) ?_
  refine sv_go C.1 C.2.1 [(.iload_n 0, 1), (.iload_n 1, 1)] (pc' := 6) (by decide +kernel) rfl (lv' := [(0, sv_i j), (1, sv_i n), (2, sv_a z)]) (st' := [sv_i n, sv_i j]) rfl ?_
  refine sv_icmp_t C.1 C.2.1 (cnd := .lt) (off := 10) (tgt := 16) (by decide +kernel) (by decide) ⟨by omega, by omega⟩ ⟨by omega, by omega⟩ (show j < n by omega) ?_
  refine sv_go C.1 C.2.1 [(.iload_n 0, 1)] (pc' := 17) (by decide +kernel) rfl (lv' := [(0, sv_i j), (1, sv_i n), (2, sv_a z)]) (st' := [sv_i j]) rfl ?_
  exact sv_iret C hr (by decide +kernel) hok ⟨rfl, rfl⟩
set_option maxHeartbeats 4000000 in
set_option maxRecDepth 100000 in
theorem sq_ci (l : Launch) (g : sv_G) (A : Nat → Prop) (ty : Nat → Nat) (σ : Nat → Nat → Int) (hok : sv_ok ty σ) (j n : Int) (hj : 0 ≤ j ∧ j < n) (hn : n ≤ 12) : sv_M l yJ0_checkIndex_df160 cJ0_checkIndex_df160 2 none { frames := 1, cells := 0, slots := 0, locals := 22 } g A ty σ [sv_i j, sv_i n] (fun r σ' => σ = σ' ∧ r = []) := by
  refine sv_enter (by decide) (Nat.le_of_ble_eq_true rfl) ?_
  intro p e s m args below meth c C hr
  have C : sv_C g A RJ0 cJ0_checkIndex_df160 2 p s m args meth c := C
  have hr : meth.sig.returnType = none := hr
  refine sv_same (st2 := []) (lv2 := [(0, sv_i j), (1, sv_i n)]) rfl rfl ?_
  refine sv_go C.1 C.2.1 [(.iload_n 0, 1), (.iload_n 1, 1)] (pc' := 2) (by decide +kernel) rfl (lv' := [(0, sv_i j), (1, sv_i n)]) (st' := [sv_i n, sv_i j]) rfl ?_
  refine sq_gq C (index := 1053) (by decide +kernel) fl_J0_1053 (fun z => ?_)
  refine sv_cs C (index := 1059) (k := 3) (as := [sv_i j, sv_i n, sv_a z]) (rest := []) (by decide +kernel) (sq_pc l g A ty σ hok j n hj hn z) ⟨co_J3_checkIndex_8e157, in_J3, ⟨by decide, by decide, by decide +kernel⟩, Nat.le_of_ble_eq_true rfl, Nat.le_of_ble_eq_true rfl⟩ ml_J0_1059 st_J3_checkIndex_8e157 rfl rfl (Nat.le_of_ble_eq_true rfl) ⟨Nat.zero_le _, Nat.zero_le _⟩ (fun r σ1 hp hok1 => ?_)
  obtain ⟨rfl, rfl⟩ := hp
  refine sv_same (st2 := [sv_i j]) (lv2 := [(0, sv_i j), (1, sv_i n)]) rfl rfl ?_
  refine sv_go C.1 C.2.1 [(.pop, 1)] (pc' := 9) (by decide +kernel) rfl (lv' := [(0, sv_i j), (1, sv_i n)]) (st' := []) rfl ?_
  exact sv_vret C hr (by decide +kernel) hok1 ⟨rfl, rfl⟩
set_option maxHeartbeats 4000000 in
set_option maxRecDepth 100000 in
theorem sq_ch1 (l : Launch) (g : sv_G) (A : Nat → Prop) (ty : Nat → Nat) (σ : Nat → Nat → Int) (hok : sv_ok ty σ) (i : Nat) (hi : i < 23) (j : Int) (hj : 0 ≤ j ∧ j < sq_n i) : sv_M l yJ1_charAt_3b067 cJ1_charAt_3b067 2 (some .char) { frames := 2, cells := 0, slots := 0, locals := 43 } g A ty σ [sv_r (g.2.2.2.2.2 i), sv_i j] (fun r σ' => σ = σ' ∧ ∃ rv : Int, r = [sv_i rv] ∧ (0 ≤ rv ∧ rv ≤ 255)) := by
  refine sv_enter (by decide) (Nat.le_of_ble_eq_true rfl) ?_
  intro p e s m args below meth c C hr
  have C : sv_C g A RJ1 cJ1_charAt_3b067 2 p s m args meth c := C
  have hn := sq_n_in i
  refine sv_same (st2 := []) (lv2 := [(0, sv_r (g.2.2.2.2.2 i)), (1, sv_i j)]) rfl rfl ?_
  refine sv_go C.1 C.2.1 [(.iload_n 1, 1), (.aload_n 0, 1)] (pc' := 2) (by decide +kernel) rfl (lv' := [(0, sv_r (g.2.2.2.2.2 i)), (1, sv_i j)]) (st' := [sv_r (g.2.2.2.2.2 i), sv_i j]) rfl ?_
  refine sq_len C hi (by decide +kernel) ?_
  refine sv_cs C (index := 9) (k := 2) (as := [sv_i j, sv_i (sq_n i : Int)]) (rest := []) (by decide +kernel) (sq_ci l g A ty σ hok j (sq_n i : Int) hj (by omega)) ⟨co_J0_checkIndex_df160, in_J0, ⟨by decide, by decide, by decide +kernel⟩, Nat.le_of_ble_eq_true rfl, Nat.le_of_ble_eq_true rfl⟩ ml_J1_9 st_J0_checkIndex_df160 rfl rfl (Nat.le_of_ble_eq_true rfl) ⟨Nat.zero_le _, Nat.zero_le _⟩ (fun r σ1 hp hok1 => ?_)
  obtain ⟨rfl, rfl⟩ := hp
  refine sv_same (st2 := []) (lv2 := [(0, sv_r (g.2.2.2.2.2 i)), (1, sv_i j)]) rfl rfl ?_
  refine sv_go C.1 C.2.1 [(.aload_n 0, 1), (.iload_n 1, 1)] (pc' := 8) (by decide +kernel) rfl (lv' := [(0, sv_r (g.2.2.2.2.2 i)), (1, sv_i j)]) (st' := [sv_i j, sv_r (g.2.2.2.2.2 i)]) rfl ?_
  refine sq_ba C hi hj.1 hj.2 (by decide +kernel) (fun z hz => ?_)
  refine sv_go C.1 C.2.1 [(.sipush 255, 3), (.iand, 1)] (pc' := 13) (by decide +kernel) rfl (lv' := [(0, sv_r (g.2.2.2.2.2 i)), (1, sv_i j)]) (st' := [sv_i (Int32.ofInt z &&& Int32.ofInt 255).toInt]) rfl ?_
  have hb := sv_andr z 255 (by decide) (by decide)
  generalize (Int32.ofInt z &&& Int32.ofInt 255).toInt = w at hb ⊢
  refine sq_i2c C.1 C.2.1 hb (by decide +kernel) ?_
  refine sq_nret C (t := .char) hr ?_ (by decide +kernel) hok1 ⟨rfl, w, rfl, hb⟩
  have key : ∀ n : Nat, n < 256 → narrow .char (.int (Int32.ofInt (n : Int))) = .int (Int32.ofInt (n : Int)) := by decide +kernel
  have := key w.toNat (by omega)
  rw [show ((w.toNat : Nat) : Int) = w by omega] at this
  exact this
set_option maxHeartbeats 4000000 in
set_option maxRecDepth 100000 in
/-- String.charAt(j) of a literal -/
theorem sq_charAt (l : Launch) (g : sv_G) (A : Nat → Prop) (ty : Nat → Nat) (σ : Nat → Nat → Int) (hok : sv_ok ty σ) (i : Nat) (hi : i < 23) (j : Int) (hj : 0 ≤ j ∧ j < sq_n i) : sv_M l yJ0_charAt_5068e cJ0_charAt_5068e 2 (some .char) { frames := 3, cells := 0, slots := 0, locals := 64 } g A ty σ [sv_r (g.2.2.2.2.1 i), sv_i j] (fun r σ' => σ = σ' ∧ ∃ rv : Int, r = [sv_i rv] ∧ (0 ≤ rv ∧ rv ≤ 255)) := by
  refine sv_enter (by decide) (Nat.le_of_ble_eq_true rfl) ?_
  intro p e s m args below meth c C hr
  have C : sv_C g A RJ0 cJ0_charAt_5068e 2 p s m args meth c := C
  refine sv_same (st2 := []) (lv2 := [(0, sv_r (g.2.2.2.2.1 i)), (1, sv_i j)]) rfl rfl ?_
  refine sv_go C.1 C.2.1 [(.aload_n 0, 1)] (pc' := 1) (by decide +kernel) rfl (lv' := [(0, sv_r (g.2.2.2.2.1 i)), (1, sv_i j)]) (st' := [sv_r (g.2.2.2.2.1 i)]) rfl ?_
  refine sq_cv C hi (index := 492) (k := 0) (as := []) (rest := []) (by decide +kernel) (sq_isLatin1 l g A ty σ hok i hi) ⟨co_J0_isLatin1_aae02, in_J0, ⟨by decide, by decide, by decide +kernel⟩, Nat.le_of_ble_eq_true rfl, Nat.le_of_ble_eq_true rfl⟩ ml_J0_492 im_J0_isLatin1_aae02 se_J0_isLatin1_aae02 rfl rfl (Nat.le_of_ble_eq_true rfl) ⟨Nat.zero_le _, Nat.zero_le _⟩ (fun r σ1 hp hok1 => ?_)
  obtain ⟨rfl, rfl⟩ := hp
  refine sv_same (st2 := [sv_i 1]) (lv2 := [(0, sv_r (g.2.2.2.2.1 i)), (1, sv_i j)]) rfl rfl ?_
  refine sv_if_f C.1 C.2.1 (cnd := .eq) (off := 12) (tgt := 16) (by decide +kernel) (by decide) ⟨by omega, by omega⟩ (show ¬ ((1 : Int) = 0) by omega) ?_
  refine sv_go C.1 C.2.1 [(.aload_n 0, 1)] (pc' := 8) (by decide +kernel) rfl (lv' := [(0, sv_r (g.2.2.2.2.1 i)), (1, sv_i j)]) (st' := [sv_r (g.2.2.2.2.1 i)]) rfl ?_
  refine sq_gfv C hi (index := 9) (by decide +kernel) fl_J0_9 ?_
  refine sv_go C.1 C.2.1 [(.iload_n 1, 1)] (pc' := 12) (by decide +kernel) rfl (lv' := [(0, sv_r (g.2.2.2.2.1 i)), (1, sv_i j)]) (st' := [sv_i j, sv_r (g.2.2.2.2.2 i)]) rfl ?_
  refine sv_cs C (index := 495) (k := 2) (as := [sv_r (g.2.2.2.2.2 i), sv_i j]) (rest := []) (by decide +kernel) (sq_ch1 l g A ty σ hok1 i hi j hj) ⟨co_J1_charAt_3b067, in_J1, ⟨by decide, by decide, by decide +kernel⟩, Nat.le_of_ble_eq_true rfl, Nat.le_of_ble_eq_true rfl⟩ ml_J0_495 st_J1_charAt_3b067 rfl rfl (Nat.le_of_ble_eq_true rfl) ⟨Nat.zero_le _, Nat.zero_le _⟩ (fun r σ2 hp hok2 => ?_)
  obtain ⟨rfl, w, rfl, hb⟩ := hp
  refine sv_same (st2 := [sv_i w]) (lv2 := [(0, sv_r (g.2.2.2.2.1 i)), (1, sv_i j)]) rfl rfl ?_
  refine sq_nret C (t := .char) hr ?_ (by decide +kernel) hok2 ⟨rfl, w, rfl, hb⟩
  have key : ∀ n : Nat, n < 256 → narrow .char (.int (Int32.ofInt (n : Int))) = .int (Int32.ofInt (n : Int)) := by decide +kernel
  have := key w.toNat (by omega)
  rw [show ((w.toNat : Nat) : Int) = w by omega] at this
  exact this
