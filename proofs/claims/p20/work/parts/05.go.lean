/-! stretches of plain instructions, jumps, branches, ends -/
def sv_cd (cc : ByteArray) : Nat → List (Instr × Nat) → Bool
  | _, [] => true
  | pc, (i, n) :: r => decide (decode cc pc = .ok (i, n)) && sv_cd cc (pc + n) r
def sv_len : List (Instr × Nat) → Nat
  | [] => 0
  | (_, n) :: r => n + sv_len r
def sv_run (nL : Nat) : List (Instr × Nat) → sv_L → List sv_T → Option (sv_L × List sv_T)
  | [], lv, st => some (lv, st)
  | (i, n) :: r, lv, st => match sv_ex i n nL lv st with
    | some q => sv_run nL r q.1 q.2
    | none => none
/-- what an int comparison says of two numbers -/
def sv_cmp : ClassFile.Cond → Int → Int → Prop
  | .eq, x, y => x = y
  | .ne, x, y => x ≠ y
  | .lt, x, y => x < y
  | .ge, x, y => y ≤ x
  | .gt, x, y => y < x
  | .le, x, y => x ≤ y
section SVG
variable {p : Program} {l : Launch} {e : Env} {R : Room} {s : State} {m : MethodId} {args : Array Value} {below : List Frame} {meth : Method} {c : Code} {cells slots : Nat} {Q : State → Prop}
variable {cc : ByteArray} {pc nL : Nat} {Hp : Heap → Prop} {A : Nat → Prop} {lv lv' : sv_L} {st st' rest : List sv_T}
theorem sv_go (hx : p.tables.exec = Jvm.exec) (hb : c.code = cc) (is : List (Instr × Nat)) {pc' : Nat} (hd : sv_cd cc pc is = true) (hp : pc + sv_len is = pc') (he : sv_run nL is lv st = some (lv', st')) (k : sv_V p l e R s m args below meth c nL A cells slots Q Hp pc' lv' st') : sv_V p l e R s m args below meth c nL A cells slots Q Hp pc lv st := by
  induction is generalizing pc lv st with
  | nil => cases he; subst hp; exact k
  | cons q r ih =>
    obtain ⟨i, n⟩ := q
    simp only [sv_cd, Bool.and_eq_true, decide_eq_true_eq] at hd
    unfold sv_run at he
    split at he
    · next q1 h1 => exact sv_ex_ok hx hb hd.1 h1 (ih hd.2 (by rw [← hp]; simp only [sv_len]; omega) he)
    · cases he
theorem sv_goto (hx : p.tables.exec = Jvm.exec) (hb : c.code = cc) {off : Int} {tgt : Nat} (hd : decode cc pc = .ok (.goto off, 3)) (ht : (pc : Int) + off = (tgt : Int)) (k : sv_V p l e R s m args below meth c nL A cells slots Q Hp tgt lv st) : sv_V p l e R s m args below meth c nL A cells slots Q Hp pc lv st :=
  fun H locs ls hH hS hl => lv_goto hx hb hd ht (k H locs ls hH hS hl)
theorem sv_icmp (hx : p.tables.exec = Jvm.exec) (hb : c.code = cc) {cnd : ClassFile.Cond} {off : Int} {tgt : Nat} {x y : Int} (hd : decode cc pc = .ok (.if_icmp cnd off, 3)) (ht : (pc : Int) + off = (tgt : Int)) (h1 : sv_in x) (h2 : sv_in y)
    (kt : sv_cmp cnd x y → sv_V p l e R s m args below meth c nL A cells slots Q Hp tgt lv rest) (kf : ¬ sv_cmp cnd x y → sv_V p l e R s m args below meth c nL A cells slots Q Hp (pc + 3) lv rest) : sv_V p l e R s m args below meth c nL A cells slots Q Hp pc lv (.inl y :: .inl x :: rest) := by
  intro H locs ls hH hS hl
  cases cnd with
  | eq => exact lv_icmp_eq hx hb hd ht (fun h => kt ((sv_eq h1 h2).mp h) H locs ls hH hS hl) (fun h => kf (fun q => h ((sv_eq h1 h2).mpr q)) H locs ls hH hS hl)
  | ne => exact lv_icmp_ne hx hb hd ht (fun h => kt (fun q => h ((sv_eq h1 h2).mpr q)) H locs ls hH hS hl) (fun h => kf (fun q => q ((sv_eq h1 h2).mp h)) H locs ls hH hS hl)
  | lt => exact lv_icmp_lt hx hb hd ht (fun h => kt ((sv_lt h1 h2).mp h) H locs ls hH hS hl) (fun h => kf (fun q => h ((sv_lt h1 h2).mpr q)) H locs ls hH hS hl)
  | ge => exact lv_icmp_ge hx hb hd ht (fun h => kt ((sv_le h2 h1).mp h) H locs ls hH hS hl) (fun h => kf (fun q => h ((sv_le h2 h1).mpr q)) H locs ls hH hS hl)
  | gt => exact lv_icmp_gt hx hb hd ht (fun h => kt ((sv_lt h2 h1).mp h) H locs ls hH hS hl) (fun h => kf (fun q => h ((sv_lt h2 h1).mpr q)) H locs ls hH hS hl)
  | le => exact lv_icmp_le hx hb hd ht (fun h => kt ((sv_le h1 h2).mp h) H locs ls hH hS hl) (fun h => kf (fun q => h ((sv_le h1 h2).mpr q)) H locs ls hH hS hl)
theorem sv_z0 : Int32.ofInt 0 = 0 := rfl
theorem sv_if (hx : p.tables.exec = Jvm.exec) (hb : c.code = cc) {cnd : ClassFile.Cond} {off : Int} {tgt : Nat} {x : Int} (hd : decode cc pc = .ok (.ifCond cnd off, 3)) (ht : (pc : Int) + off = (tgt : Int)) (h1 : sv_in x)
    (kt : sv_cmp cnd x 0 → sv_V p l e R s m args below meth c nL A cells slots Q Hp tgt lv rest) (kf : ¬ sv_cmp cnd x 0 → sv_V p l e R s m args below meth c nL A cells slots Q Hp (pc + 3) lv rest) : sv_V p l e R s m args below meth c nL A cells slots Q Hp pc lv (.inl x :: rest) := by
  intro H locs ls hH hS hl
  have h2 : sv_in 0 := ⟨by decide, by decide⟩
  cases cnd with
  | eq => exact lv_if_eq hx hb hd ht (fun h => kt ((sv_eq h1 h2).mp h) H locs ls hH hS hl) (fun h => kf (fun q => h ((sv_eq h1 h2).mpr q)) H locs ls hH hS hl)
  | ne => exact lv_if_ne hx hb hd ht (fun h => kt (fun q => h ((sv_eq h1 h2).mpr q)) H locs ls hH hS hl) (fun h => kf (fun q => q ((sv_eq h1 h2).mp h)) H locs ls hH hS hl)
  | lt => exact lv_if_lt hx hb hd ht (fun h => kt ((sv_lt h1 h2).mp h) H locs ls hH hS hl) (fun h => kf (fun q => h ((sv_lt h1 h2).mpr q)) H locs ls hH hS hl)
  | ge => exact lv_if_ge hx hb hd ht (fun h => kt ((sv_le h2 h1).mp h) H locs ls hH hS hl) (fun h => kf (fun q => h ((sv_le h2 h1).mpr q)) H locs ls hH hS hl)
  | gt => exact lv_if_gt hx hb hd ht (fun h => kt ((sv_lt h2 h1).mp h) H locs ls hH hS hl) (fun h => kf (fun q => h ((sv_lt h2 h1).mpr q)) H locs ls hH hS hl)
  | le => exact lv_if_le hx hb hd ht (fun h => kt ((sv_le h1 h2).mp h) H locs ls hH hS hl) (fun h => kf (fun q => h ((sv_le h1 h2).mpr q)) H locs ls hH hS hl)
theorem sv_ifnull (hx : p.tables.exec = Jvm.exec) (hb : c.code = cc) {off : Int} {tgt : Nat} {z : Int} (hd : decode cc pc = .ok (.ifnull off, 3)) (ht : (pc : Int) + off = (tgt : Int)) (hz : 0 ≤ z)
    (kt : z = 0 → sv_V p l e R s m args below meth c nL A cells slots Q Hp tgt lv rest) (kf : 0 < z → sv_V p l e R s m args below meth c nL A cells slots Q Hp (pc + 3) lv rest) : sv_V p l e R s m args below meth c nL A cells slots Q Hp pc lv (.inr (.inl z) :: rest) := by
  intro H locs ls hH hS hl
  match z, hz with
  | .ofNat 0, _ => exact lv_ifnullN hx hb hd ht (kt rfl H locs ls hH hS hl)
  | .ofNat (n + 1), _ => exact lv_ifnull hx hb hd (kf (by simp only [Int.ofNat_eq_natCast]; omega) H locs ls hH hS hl)
theorem sv_ifnonnull (hx : p.tables.exec = Jvm.exec) (hb : c.code = cc) {off : Int} {tgt : Nat} {z : Int} (hd : decode cc pc = .ok (.ifnonnull off, 3)) (ht : (pc : Int) + off = (tgt : Int)) (hz : 0 ≤ z)
    (kt : 0 < z → sv_V p l e R s m args below meth c nL A cells slots Q Hp tgt lv rest) (kf : z = 0 → sv_V p l e R s m args below meth c nL A cells slots Q Hp (pc + 3) lv rest) : sv_V p l e R s m args below meth c nL A cells slots Q Hp pc lv (.inr (.inl z) :: rest) := by
  intro H locs ls hH hS hl
  match z, hz with
  | .ofNat 0, _ => exact lv_ifnonnullN hx hb hd (kf rfl H locs ls hH hS hl)
  | .ofNat (n + 1), _ => exact lv_ifnonnull hx hb hd ht (kt (by simp only [Int.ofNat_eq_natCast]; omega) H locs ls hH hS hl)
/-- the same place with other words: numbers that are equal, fewer locals, another heap's word -/
theorem sv_same {st2 : List sv_T} {lv2 : sv_L} (h1 : st = st2) (h2 : lv = lv2) (k : sv_V p l e R s m args below meth c nL A cells slots Q Hp pc lv2 st2) : sv_V p l e R s m args below meth c nL A cells slots Q Hp pc lv st := by subst h1; subst h2; exact k
theorem sv_heap {Hp2 : Heap → Prop} (h : ∀ H, Hp H → Hp2 H) (k : sv_V p l e R s m args below meth c nL A cells slots Q Hp2 pc lv st) : sv_V p l e R s m args below meth c nL A cells slots Q Hp pc lv st :=
  fun H locs ls hH hS hl => k H locs ls (h H hH) hS hl
theorem sv_drop {lv2 : sv_L} (h : ∀ q ∈ lv2, q ∈ lv) (k : sv_V p l e R s m args below meth c nL A cells slots Q Hp pc lv2 st) : sv_V p l e R s m args below meth c nL A cells slots Q Hp pc lv st :=
  fun H locs ls hH hS hl => k H locs ls hH hS ⟨hl.1, hl.2.1, fun q hq => by obtain ⟨z, hz, e⟩ := List.mem_map.mp hq; exact hl.2.2 q (List.mem_map.mpr ⟨z, h z hz, e⟩)⟩
theorem sv_tdiv_in {x y : Int} (h1 : sv_in x) (h2 : 0 < y) : sv_in (x.tdiv y) := by
  have b1 := Int.natAbs_tdiv_le_natAbs x y
  have h3 := h1.1
  have h4 := h1.2
  rcases Int.le_total 0 x with h | h
  · have b2 : 0 ≤ x.tdiv y := Int.tdiv_nonneg h (by omega)
    exact ⟨by omega, by omega⟩
  · have b2 : 0 ≤ (-x).tdiv y := Int.tdiv_nonneg (by omega) (by omega)
    rw [Int.neg_tdiv] at b2
    exact ⟨by omega, by omega⟩
/-- division by a number that isn't 0, of numbers in range -/
theorem sv_idiv (hx : p.tables.exec = Jvm.exec) (hb : c.code = cc) {x y : Int} (hd : decode cc pc = .ok (.idiv, 1)) (h1 : sv_in x) (h2 : 0 < y) (h3 : y < 2147483648)
    (k : sv_V p l e R s m args below meth c nL A cells slots Q Hp (pc + 1) lv (sv_i (x.tdiv y) :: rest)) : sv_V p l e R s m args below meth c nL A cells slots Q Hp pc lv (.inl y :: .inl x :: rest) := by
  intro H locs ls hH hS hl
  have hy : (Int32.ofInt y).toInt = y := sv_oi ⟨by omega, h3⟩
  refine lv_idiv hx hb hd (fun q => ?_) ?_
  · have := congrArg Int32.toInt q
    rw [hy, Int32.toInt_zero] at this
    omega
  · have hq : Int32.ofInt x / Int32.ofInt y = Int32.ofInt (x.tdiv y) := by
      rw [← Int32.toInt_inj, Int32.toInt_div_of_ne_right _ _ (by intro q; have := congrArg Int32.toInt q; rw [hy] at this; revert this; simp; omega), hy, sv_oi h1]
      rw [sv_oi (sv_tdiv_in h1 h2)]
    rw [hq]
    exact k H locs ls hH hS hl
theorem sv_irem (hx : p.tables.exec = Jvm.exec) (hb : c.code = cc) {x y : Int} (hd : decode cc pc = .ok (.irem, 1)) (h1 : sv_in x) (h2 : 0 < y) (h3 : y < 2147483648)
    (k : sv_V p l e R s m args below meth c nL A cells slots Q Hp (pc + 1) lv (sv_i (x.tmod y) :: rest)) : sv_V p l e R s m args below meth c nL A cells slots Q Hp pc lv (.inl y :: .inl x :: rest) := by
  intro H locs ls hH hS hl
  have hy : (Int32.ofInt y).toInt = y := sv_oi ⟨by omega, h3⟩
  refine lv_irem hx hb hd (fun q => ?_) ?_
  · have := congrArg Int32.toInt q
    rw [hy, Int32.toInt_zero] at this
    omega
  · have hq : Int32.ofInt x / Int32.ofInt y = Int32.ofInt (x.tdiv y) := by
      rw [← Int32.toInt_inj, Int32.toInt_div_of_ne_right _ _ (by intro q; have := congrArg Int32.toInt q; rw [hy] at this; revert this; simp; omega), hy, sv_oi h1]
      rw [sv_oi (sv_tdiv_in h1 h2)]
    rw [hq, sv_mul, sv_sub, show x - x.tdiv y * y = x.tmod y by have := Int.mul_tdiv_add_tmod x y; rw [Int.mul_comm] at this; omega]
    exact k H locs ls hH hS hl
end SVG
