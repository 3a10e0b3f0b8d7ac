theorem lz_ns_X0 : Cond.instantiable RX0 12 ∈ lw_good := sv_mem 312 (by decide +kernel) rfl
theorem lz_ns_X1 : Cond.instantiable RX1 6 ∈ lw_good := sv_mem 173 (by decide +kernel) rfl
theorem lz_ns_X3 : Cond.instantiable RX3 12 ∈ lw_good := sv_mem 180 (by decide +kernel) rfl
theorem lz_ns_X4 : Cond.instantiable RX4 11 ∈ lw_good := sv_mem 167 (by decide +kernel) rfl
theorem lz_ns_X5 : Cond.instantiable RX5 5 ∈ lw_good := sv_mem 365 (by decide +kernel) rfl
theorem lz_ns_X6 : Cond.instantiable RX6 13 ∈ lw_good := sv_mem 118 (by decide +kernel) rfl
theorem lz_ns_X7 : Cond.instantiable RX7 2 ∈ lw_good := sv_mem 102 (by decide +kernel) rfl
theorem lz_ns_X8 : Cond.instantiable RX8 4 ∈ lw_good := sv_mem 358 (by decide +kernel) rfl
theorem lz_ns_X9 : Cond.instantiable RX9 6 ∈ lw_good := sv_mem 94 (by decide +kernel) rfl
theorem lz_ns_X10 : Cond.instantiable RX10 6 ∈ lw_good := sv_mem 1045 (by decide +kernel) rfl
theorem lz_ns_X11 : Cond.instantiable RX11 47 ∈ lw_good := sv_mem 1039 (by decide +kernel) rfl
theorem lz_kl_7 : Cond.classLink RL 7 RX9 ∈ lw_good := sv_mem 93 (by decide +kernel) rfl
theorem lz_kl_10 : Cond.classLink RL 10 RX11 ∈ lw_good := sv_mem 1038 (by decide +kernel) rfl
theorem lz_co_X9_init : Cond.code yX9_init cX9_init 2 none ∈ lw_good := sv_mem 97 (by decide +kernel) rfl
theorem lz_ml_9 : Cond.methodLink RL 9 yX9_init ∈ lw_good := sv_mem 95 (by decide +kernel) rfl
theorem lz_im_X9_init : Cond.instanceMethod yX9_init ∈ lw_good := sv_mem 96 (by decide +kernel) rfl
theorem lz_co_X11_init : Cond.code yX11_init cX11_init 1 none ∈ lw_good := sv_mem 1042 (by decide +kernel) rfl
theorem lz_ml_12 : Cond.methodLink RL 12 yX11_init ∈ lw_good := sv_mem 1040 (by decide +kernel) rfl
theorem lz_im_X11_init : Cond.instanceMethod yX11_init ∈ lw_good := sv_mem 1041 (by decide +kernel) rfl
theorem lz_a_int : Cond.arrayClass .int ∈ lw_good := sv_mem 238 (by decide +kernel) rfl
theorem lz_a_byte : Cond.arrayClass .byte ∈ lw_good := sv_mem 116 (by decide +kernel) rfl
theorem lz_a_boolean : Cond.arrayClass .boolean ∈ lw_good := sv_mem 1103 (by decide +kernel) rfl
theorem lz_in_D : Cond.initialized "SaintsRoad$Days" ∈ lw_good := sv_mem 90 (by decide +kernel) rfl
theorem lz_in_T : Cond.initialized "java/lang/Throwable" ∈ lw_good := sv_mem 83 (by decide +kernel) rfl
theorem lz_in_S : Cond.initialized "java/lang/String" ∈ lw_good := sv_mem 86 (by decide +kernel) rfl
theorem lz_in_P : Cond.initialized "jdk/internal/util/Preconditions" ∈ lw_good := sv_mem 88 (by decide +kernel) rfl
theorem lz_one {args : Array Value} {s : State} {own tx : String} {k n : Nat} (byt : List Int32) {A : Nat → Prop} (hn : n < 2 ^ 31) (hsr : (Cond.stringRef own k tx).before args s = true) (hex : (Cond.exactly (.string own k) "java/lang/String").before args s = true) (hco : (Cond.eq (.field (.string own k) "java/lang/String" "coder" "B") (.int 0)).before args s = true)
    (har : (Cond.arrayOf (.field (.string own k) "java/lang/String" "value" "[B") .byte).before args s = true) (hle : (Cond.eq (.length (.field (.string own k) "java/lang/String" "value" "[B")) (.int (Int32.ofNat n))).before args s = true)
    (hel : ∀ j : Nat, j < n → (Cond.eq (.elem (.field (.string own k) "java/lang/String" "value" "[B") (.int (Int32.ofNat j))) (.int (byt.getD j 0))).before args s = true) (hA : ∀ a : Nat, a < s.heap.size → ¬ A a) :
    ∃ q : Nat × Nat, vk_R own k tx q.1 s ∧ va_O "java/lang/String" q.1 A s s.heap ∧ va_OF "java/lang/String" "coder" "B" (.int 0) q.1 A s s.heap ∧ va_OF "java/lang/String" "value" "[B" (.ref q.2) q.1 A s s.heap ∧ ∃ f : Nat → Int32, va_T .byte q.2 n (fun j => .int (f j)) A s s.heap := by
  obtain ⟨a, c, cA, kA, q1, q2, q3, q4, q5, q6, -⟩ := Cond.exactly_spec (args := args) (first := s) (o := none) (s := s) (idx := []) (t := .string own k) (cls := "java/lang/String") hex
  obtain ⟨t, ht, hT⟩ := va_Tof (f := fun j => .int (byt.getD j 0)) (A := A) hn har (va_eqt hle) (fun j hj => va_eqt (hel j hj)) hA
  have q1' : (Term.string own k).eval #[] s none [] s = some (.ref a) := by rw [← q1]; rfl
  exact ⟨(a, t), ⟨by first | exact hsr | (have h1 := hsr; simp only [Cond.before, Cond.holds, Cond.value] at h1 ⊢; exact h1), q1'⟩, ⟨cA, q3, q5, by rw [q6]; exact q2, hA a (Array.getElem?_eq_some_iff.mp q3).1⟩, vk_OFof q1 (va_eqt hco) hA, vk_OFof q1 ht hA, fun j => byt.getD j 0, hT⟩
def lz_P (A : Nat → Prop) (s : State) (i : Nat) (q : Nat × Nat) : Prop := (∀ z : String × Nat × String, sq_L[i]? = some z → vk_R z.1 z.2.1 z.2.2 q.1 s) ∧ va_O "java/lang/String" q.1 A s s.heap ∧ va_OF "java/lang/String" "coder" "B" (.int 0) q.1 A s s.heap ∧ va_OF "java/lang/String" "value" "[B" (.ref q.2) q.1 A s s.heap ∧ ∃ f : Nat → Int32, va_T .byte q.2 (sq_n i) (fun j => .int (f j)) A s s.heap
set_option maxHeartbeats 4000000 in
set_option maxRecDepth 100000 in
theorem lz_s0 {s : State} {b : Nat} {A : Nat → Prop} (hA : ∀ a : Nat, a < s.heap.size → ¬ A a) (hts : ∀ w ∈ lw_tbl, w.before #[Value.ref b] s = true) (hs : ∀ c ∈ flatC (Jvm.Cond.and given_1 narrow_1), c.before #[Value.ref b] s = true) : ∃ q, lz_P A s 0 q := by
  obtain ⟨q, h1, h2⟩ := lz_one (args := #[Value.ref b]) (s := s) (own := "SaintsRoad$Reader") (k := 105) (tx := "fixed") (n := 5) [102, 105, 120, 101, 100] (A := A) (by decide) (hts _ (List.mem_of_getElem? (i := 477) (by decide +kernel))) (hs _ (by decide +kernel)) (hs _ (by decide +kernel)) (hs _ (by decide +kernel)) (hs _ (by decide +kernel)) (fun j hj => by
    match j, hj with
    | 0, _ => exact hs _ (by decide +kernel)
    | 1, _ => exact hs _ (by decide +kernel)
    | 2, _ => exact hs _ (by decide +kernel)
    | 3, _ => exact hs _ (by decide +kernel)
    | 4, _ => exact hs _ (by decide +kernel)
    | j + 5, h => omega) hA
  exact ⟨q, fun z hz => by cases hz; exact h1, h2⟩
set_option maxHeartbeats 4000000 in
set_option maxRecDepth 100000 in
theorem lz_s1 {s : State} {b : Nat} {A : Nat → Prop} (hA : ∀ a : Nat, a < s.heap.size → ¬ A a) (hts : ∀ w ∈ lw_tbl, w.before #[Value.ref b] s = true) (hs : ∀ c ∈ flatC (Jvm.Cond.and given_1 narrow_1), c.before #[Value.ref b] s = true) : ∃ q, lz_P A s 1 q := by
  obtain ⟨q, h1, h2⟩ := lz_one (args := #[Value.ref b]) (s := s) (own := "SaintsRoad$Reader") (k := 107) (tx := "moved") (n := 5) [109, 111, 118, 101, 100] (A := A) (by decide) (hts _ (List.mem_of_getElem? (i := 478) (by decide +kernel))) (hs _ (by decide +kernel)) (hs _ (by decide +kernel)) (hs _ (by decide +kernel)) (hs _ (by decide +kernel)) (fun j hj => by
    match j, hj with
    | 0, _ => exact hs _ (by decide +kernel)
    | 1, _ => exact hs _ (by decide +kernel)
    | 2, _ => exact hs _ (by decide +kernel)
    | 3, _ => exact hs _ (by decide +kernel)
    | 4, _ => exact hs _ (by decide +kernel)
    | j + 5, h => omega) hA
  exact ⟨q, fun z hz => by cases hz; exact h1, h2⟩
set_option maxHeartbeats 4000000 in
set_option maxRecDepth 100000 in
theorem lz_s2 {s : State} {b : Nat} {A : Nat → Prop} (hA : ∀ a : Nat, a < s.heap.size → ¬ A a) (hts : ∀ w ∈ lw_tbl, w.before #[Value.ref b] s = true) (hs : ∀ c ∈ flatC (Jvm.Cond.and given_1 narrow_1), c.before #[Value.ref b] s = true) : ∃ q, lz_P A s 2 q := by
  obtain ⟨q, h1, h2⟩ := lz_one (args := #[Value.ref b]) (s := s) (own := "SaintsRoad$Reader") (k := 109) (tx := "sunday") (n := 6) [115, 117, 110, 100, 97, 121] (A := A) (by decide) (hts _ (List.mem_of_getElem? (i := 479) (by decide +kernel))) (hs _ (by decide +kernel)) (hs _ (by decide +kernel)) (hs _ (by decide +kernel)) (hs _ (by decide +kernel)) (fun j hj => by
    match j, hj with
    | 0, _ => exact hs _ (by decide +kernel)
    | 1, _ => exact hs _ (by decide +kernel)
    | 2, _ => exact hs _ (by decide +kernel)
    | 3, _ => exact hs _ (by decide +kernel)
    | 4, _ => exact hs _ (by decide +kernel)
    | 5, _ => exact hs _ (by decide +kernel)
    | j + 6, h => omega) hA
  exact ⟨q, fun z hz => by cases hz; exact h1, h2⟩
set_option maxHeartbeats 4000000 in
set_option maxRecDepth 100000 in
theorem lz_s3 {s : State} {b : Nat} {A : Nat → Prop} (hA : ∀ a : Nat, a < s.heap.size → ¬ A a) (hts : ∀ w ∈ lw_tbl, w.before #[Value.ref b] s = true) (hs : ∀ c ∈ flatC (Jvm.Cond.and given_1 narrow_1), c.before #[Value.ref b] s = true) : ∃ q, lz_P A s 3 q := by
  obtain ⟨q, h1, h2⟩ := lz_one (args := #[Value.ref b]) (s := s) (own := "SaintsRoad$Reader") (k := 111) (tx := "rank") (n := 4) [114, 97, 110, 107] (A := A) (by decide) (hts _ (List.mem_of_getElem? (i := 480) (by decide +kernel))) (hs _ (by decide +kernel)) (hs _ (by decide +kernel)) (hs _ (by decide +kernel)) (hs _ (by decide +kernel)) (fun j hj => by
    match j, hj with
    | 0, _ => exact hs _ (by decide +kernel)
    | 1, _ => exact hs _ (by decide +kernel)
    | 2, _ => exact hs _ (by decide +kernel)
    | 3, _ => exact hs _ (by decide +kernel)
    | j + 4, h => omega) hA
  exact ⟨q, fun z hz => by cases hz; exact h1, h2⟩
set_option maxHeartbeats 4000000 in
set_option maxRecDepth 100000 in
theorem lz_s4 {s : State} {b : Nat} {A : Nat → Prop} (hA : ∀ a : Nat, a < s.heap.size → ¬ A a) (hts : ∀ w ∈ lw_tbl, w.before #[Value.ref b] s = true) (hs : ∀ c ∈ flatC (Jvm.Cond.and given_1 narrow_1), c.before #[Value.ref b] s = true) : ∃ q, lz_P A s 4 q := by
  obtain ⟨q, h1, h2⟩ := lz_one (args := #[Value.ref b]) (s := s) (own := "SaintsRoad$Reader") (k := 113) (tx := "vigil") (n := 5) [118, 105, 103, 105, 108] (A := A) (by decide) (hts _ (List.mem_of_getElem? (i := 481) (by decide +kernel))) (hs _ (by decide +kernel)) (hs _ (by decide +kernel)) (hs _ (by decide +kernel)) (hs _ (by decide +kernel)) (fun j hj => by
    match j, hj with
    | 0, _ => exact hs _ (by decide +kernel)
    | 1, _ => exact hs _ (by decide +kernel)
    | 2, _ => exact hs _ (by decide +kernel)
    | 3, _ => exact hs _ (by decide +kernel)
    | 4, _ => exact hs _ (by decide +kernel)
    | j + 5, h => omega) hA
  exact ⟨q, fun z hz => by cases hz; exact h1, h2⟩
set_option maxHeartbeats 4000000 in
set_option maxRecDepth 100000 in
theorem lz_s5 {s : State} {b : Nat} {A : Nat → Prop} (hA : ∀ a : Nat, a < s.heap.size → ¬ A a) (hts : ∀ w ∈ lw_tbl, w.before #[Value.ref b] s = true) (hs : ∀ c ∈ flatC (Jvm.Cond.and given_1 narrow_1), c.before #[Value.ref b] s = true) : ∃ q, lz_P A s 5 q := by
  obtain ⟨q, h1, h2⟩ := lz_one (args := #[Value.ref b]) (s := s) (own := "SaintsRoad$Reader") (k := 115) (tx := "octave") (n := 6) [111, 99, 116, 97, 118, 101] (A := A) (by decide) (hts _ (List.mem_of_getElem? (i := 482) (by decide +kernel))) (hs _ (by decide +kernel)) (hs _ (by decide +kernel)) (hs _ (by decide +kernel)) (hs _ (by decide +kernel)) (fun j hj => by
    match j, hj with
    | 0, _ => exact hs _ (by decide +kernel)
    | 1, _ => exact hs _ (by decide +kernel)
    | 2, _ => exact hs _ (by decide +kernel)
    | 3, _ => exact hs _ (by decide +kernel)
    | 4, _ => exact hs _ (by decide +kernel)
    | 5, _ => exact hs _ (by decide +kernel)
    | j + 6, h => omega) hA
  exact ⟨q, fun z hz => by cases hz; exact h1, h2⟩
set_option maxHeartbeats 4000000 in
set_option maxRecDepth 100000 in
theorem lz_s6 {s : State} {b : Nat} {A : Nat → Prop} (hA : ∀ a : Nat, a < s.heap.size → ¬ A a) (hts : ∀ w ∈ lw_tbl, w.before #[Value.ref b] s = true) (hs : ∀ c ∈ flatC (Jvm.Cond.and given_1 narrow_1), c.before #[Value.ref b] s = true) : ∃ q, lz_P A s 6 q := by
  obtain ⟨q, h1, h2⟩ := lz_one (args := #[Value.ref b]) (s := s) (own := "SaintsRoad$Reader") (k := 117) (tx := "from") (n := 4) [102, 114, 111, 109] (A := A) (by decide) (hts _ (List.mem_of_getElem? (i := 483) (by decide +kernel))) (hs _ (by decide +kernel)) (hs _ (by decide +kernel)) (hs _ (by decide +kernel)) (hs _ (by decide +kernel)) (fun j hj => by
    match j, hj with
    | 0, _ => exact hs _ (by decide +kernel)
    | 1, _ => exact hs _ (by decide +kernel)
    | 2, _ => exact hs _ (by decide +kernel)
    | 3, _ => exact hs _ (by decide +kernel)
    | j + 4, h => omega) hA
  exact ⟨q, fun z hz => by cases hz; exact h1, h2⟩
set_option maxHeartbeats 4000000 in
set_option maxRecDepth 100000 in
theorem lz_s7 {s : State} {b : Nat} {A : Nat → Prop} (hA : ∀ a : Nat, a < s.heap.size → ¬ A a) (hts : ∀ w ∈ lw_tbl, w.before #[Value.ref b] s = true) (hs : ∀ c ∈ flatC (Jvm.Cond.and given_1 narrow_1), c.before #[Value.ref b] s = true) : ∃ q, lz_P A s 7 q := by
  obtain ⟨q, h1, h2⟩ := lz_one (args := #[Value.ref b]) (s := s) (own := "SaintsRoad$Reader") (k := 119) (tx := "till") (n := 4) [116, 105, 108, 108] (A := A) (by decide) (hts _ (List.mem_of_getElem? (i := 484) (by decide +kernel))) (hs _ (by decide +kernel)) (hs _ (by decide +kernel)) (hs _ (by decide +kernel)) (hs _ (by decide +kernel)) (fun j hj => by
    match j, hj with
    | 0, _ => exact hs _ (by decide +kernel)
    | 1, _ => exact hs _ (by decide +kernel)
    | 2, _ => exact hs _ (by decide +kernel)
    | 3, _ => exact hs _ (by decide +kernel)
    | j + 4, h => omega) hA
  exact ⟨q, fun z hz => by cases hz; exact h1, h2⟩
set_option maxHeartbeats 4000000 in
set_option maxRecDepth 100000 in
theorem lz_s8 {s : State} {b : Nat} {A : Nat → Prop} (hA : ∀ a : Nat, a < s.heap.size → ¬ A a) (hts : ∀ w ∈ lw_tbl, w.before #[Value.ref b] s = true) (hs : ∀ c ∈ flatC (Jvm.Cond.and given_1 narrow_1), c.before #[Value.ref b] s = true) : ∃ q, lz_P A s 8 q := by
  obtain ⟨q, h1, h2⟩ := lz_one (args := #[Value.ref b]) (s := s) (own := "SaintsRoad$Reader") (k := 121) (tx := "yield") (n := 5) [121, 105, 101, 108, 100] (A := A) (by decide) (hts _ (List.mem_of_getElem? (i := 485) (by decide +kernel))) (hs _ (by decide +kernel)) (hs _ (by decide +kernel)) (hs _ (by decide +kernel)) (hs _ (by decide +kernel)) (fun j hj => by
    match j, hj with
    | 0, _ => exact hs _ (by decide +kernel)
    | 1, _ => exact hs _ (by decide +kernel)
    | 2, _ => exact hs _ (by decide +kernel)
    | 3, _ => exact hs _ (by decide +kernel)
    | 4, _ => exact hs _ (by decide +kernel)
    | j + 5, h => omega) hA
  exact ⟨q, fun z hz => by cases hz; exact h1, h2⟩
set_option maxHeartbeats 4000000 in
set_option maxRecDepth 100000 in
theorem lz_s9 {s : State} {b : Nat} {A : Nat → Prop} (hA : ∀ a : Nat, a < s.heap.size → ¬ A a) (hts : ∀ w ∈ lw_tbl, w.before #[Value.ref b] s = true) (hs : ∀ c ∈ flatC (Jvm.Cond.and given_1 narrow_1), c.before #[Value.ref b] s = true) : ∃ q, lz_P A s 9 q := by
  obtain ⟨q, h1, h2⟩ := lz_one (args := #[Value.ref b]) (s := s) (own := "SaintsRoad$Reader") (k := 123) (tx := "wax") (n := 3) [119, 97, 120] (A := A) (by decide) (hts _ (List.mem_of_getElem? (i := 486) (by decide +kernel))) (hs _ (by decide +kernel)) (hs _ (by decide +kernel)) (hs _ (by decide +kernel)) (hs _ (by decide +kernel)) (fun j hj => by
    match j, hj with
    | 0, _ => exact hs _ (by decide +kernel)
    | 1, _ => exact hs _ (by decide +kernel)
    | 2, _ => exact hs _ (by decide +kernel)
    | j + 3, h => omega) hA
  exact ⟨q, fun z hz => by cases hz; exact h1, h2⟩
set_option maxHeartbeats 4000000 in
set_option maxRecDepth 100000 in
theorem lz_s10 {s : State} {b : Nat} {A : Nat → Prop} (hA : ∀ a : Nat, a < s.heap.size → ¬ A a) (hts : ∀ w ∈ lw_tbl, w.before #[Value.ref b] s = true) (hs : ∀ c ∈ flatC (Jvm.Cond.and given_1 narrow_1), c.before #[Value.ref b] s = true) : ∃ q, lz_P A s 10 q := by
  obtain ⟨q, h1, h2⟩ := lz_one (args := #[Value.ref b]) (s := s) (own := "SaintsRoad$Reader") (k := 125) (tx := "lent") (n := 4) [108, 101, 110, 116] (A := A) (by decide) (hts _ (List.mem_of_getElem? (i := 487) (by decide +kernel))) (hs _ (by decide +kernel)) (hs _ (by decide +kernel)) (hs _ (by decide +kernel)) (hs _ (by decide +kernel)) (fun j hj => by
    match j, hj with
    | 0, _ => exact hs _ (by decide +kernel)
    | 1, _ => exact hs _ (by decide +kernel)
    | 2, _ => exact hs _ (by decide +kernel)
    | 3, _ => exact hs _ (by decide +kernel)
    | j + 4, h => omega) hA
  exact ⟨q, fun z hz => by cases hz; exact h1, h2⟩
set_option maxHeartbeats 4000000 in
set_option maxRecDepth 100000 in
theorem lz_s11 {s : State} {b : Nat} {A : Nat → Prop} (hA : ∀ a : Nat, a < s.heap.size → ¬ A a) (hts : ∀ w ∈ lw_tbl, w.before #[Value.ref b] s = true) (hs : ∀ c ∈ flatC (Jvm.Cond.and given_1 narrow_1), c.before #[Value.ref b] s = true) : ∃ q, lz_P A s 11 q := by
  obtain ⟨q, h1, h2⟩ := lz_one (args := #[Value.ref b]) (s := s) (own := "SaintsRoad$Reader") (k := 127) (tx := "") (n := 0) [] (A := A) (by decide) (hts _ (List.mem_of_getElem? (i := 488) (by decide +kernel))) (hs _ (by decide +kernel)) (hs _ (by decide +kernel)) (hs _ (by decide +kernel)) (hs _ (by decide +kernel)) (fun j hj => by
    match j, hj with
    | j + 0, h => omega) hA
  exact ⟨q, fun z hz => by cases hz; exact h1, h2⟩
set_option maxHeartbeats 4000000 in
set_option maxRecDepth 100000 in
theorem lz_s12 {s : State} {b : Nat} {A : Nat → Prop} (hA : ∀ a : Nat, a < s.heap.size → ¬ A a) (hts : ∀ w ∈ lw_tbl, w.before #[Value.ref b] s = true) (hs : ∀ c ∈ flatC (Jvm.Cond.and given_1 narrow_1), c.before #[Value.ref b] s = true) : ∃ q, lz_P A s 12 q := by
  obtain ⟨q, h1, h2⟩ := lz_one (args := #[Value.ref b]) (s := s) (own := "SaintsRoadModel") (k := 221) (tx := "yield") (n := 5) [121, 105, 101, 108, 100] (A := A) (by decide) (hts _ (List.mem_of_getElem? (i := 1292) (by decide +kernel))) (hs _ (by decide +kernel)) (hs _ (by decide +kernel)) (hs _ (by decide +kernel)) (hs _ (by decide +kernel)) (fun j hj => by
    match j, hj with
    | 0, _ => exact hs _ (by decide +kernel)
    | 1, _ => exact hs _ (by decide +kernel)
    | 2, _ => exact hs _ (by decide +kernel)
    | 3, _ => exact hs _ (by decide +kernel)
    | 4, _ => exact hs _ (by decide +kernel)
    | j + 5, h => omega) hA
  exact ⟨q, fun z hz => by cases hz; exact h1, h2⟩
set_option maxHeartbeats 4000000 in
set_option maxRecDepth 100000 in
theorem lz_s13 {s : State} {b : Nat} {A : Nat → Prop} (hA : ∀ a : Nat, a < s.heap.size → ¬ A a) (hts : ∀ w ∈ lw_tbl, w.before #[Value.ref b] s = true) (hs : ∀ c ∈ flatC (Jvm.Cond.and given_1 narrow_1), c.before #[Value.ref b] s = true) : ∃ q, lz_P A s 13 q := by
  obtain ⟨q, h1, h2⟩ := lz_one (args := #[Value.ref b]) (s := s) (own := "SaintsRoadModel") (k := 224) (tx := "lent") (n := 4) [108, 101, 110, 116] (A := A) (by decide) (hts _ (List.mem_of_getElem? (i := 1311) (by decide +kernel))) (hs _ (by decide +kernel)) (hs _ (by decide +kernel)) (hs _ (by decide +kernel)) (hs _ (by decide +kernel)) (fun j hj => by
    match j, hj with
    | 0, _ => exact hs _ (by decide +kernel)
    | 1, _ => exact hs _ (by decide +kernel)
    | 2, _ => exact hs _ (by decide +kernel)
    | 3, _ => exact hs _ (by decide +kernel)
    | j + 4, h => omega) hA
  exact ⟨q, fun z hz => by cases hz; exact h1, h2⟩
set_option maxHeartbeats 4000000 in
set_option maxRecDepth 100000 in
theorem lz_s14 {s : State} {b : Nat} {A : Nat → Prop} (hA : ∀ a : Nat, a < s.heap.size → ¬ A a) (hts : ∀ w ∈ lw_tbl, w.before #[Value.ref b] s = true) (hs : ∀ c ∈ flatC (Jvm.Cond.and given_1 narrow_1), c.before #[Value.ref b] s = true) : ∃ q, lz_P A s 14 q := by
  obtain ⟨q, h1, h2⟩ := lz_one (args := #[Value.ref b]) (s := s) (own := "SaintsRoadModel") (k := 223) (tx := "wax") (n := 3) [119, 97, 120] (A := A) (by decide) (hts _ (List.mem_of_getElem? (i := 1312) (by decide +kernel))) (hs _ (by decide +kernel)) (hs _ (by decide +kernel)) (hs _ (by decide +kernel)) (hs _ (by decide +kernel)) (fun j hj => by
    match j, hj with
    | 0, _ => exact hs _ (by decide +kernel)
    | 1, _ => exact hs _ (by decide +kernel)
    | 2, _ => exact hs _ (by decide +kernel)
    | j + 3, h => omega) hA
  exact ⟨q, fun z hz => by cases hz; exact h1, h2⟩
set_option maxHeartbeats 4000000 in
set_option maxRecDepth 100000 in
theorem lz_s15 {s : State} {b : Nat} {A : Nat → Prop} (hA : ∀ a : Nat, a < s.heap.size → ¬ A a) (hts : ∀ w ∈ lw_tbl, w.before #[Value.ref b] s = true) (hs : ∀ c ∈ flatC (Jvm.Cond.and given_1 narrow_1), c.before #[Value.ref b] s = true) : ∃ q, lz_P A s 15 q := by
  obtain ⟨q, h1, h2⟩ := lz_one (args := #[Value.ref b]) (s := s) (own := "SaintsRoadModel") (k := 206) (tx := "fixed") (n := 5) [102, 105, 120, 101, 100] (A := A) (by decide) (hts _ (List.mem_of_getElem? (i := 1317) (by decide +kernel))) (hs _ (by decide +kernel)) (hs _ (by decide +kernel)) (hs _ (by decide +kernel)) (hs _ (by decide +kernel)) (fun j hj => by
    match j, hj with
    | 0, _ => exact hs _ (by decide +kernel)
    | 1, _ => exact hs _ (by decide +kernel)
    | 2, _ => exact hs _ (by decide +kernel)
    | 3, _ => exact hs _ (by decide +kernel)
    | 4, _ => exact hs _ (by decide +kernel)
    | j + 5, h => omega) hA
  exact ⟨q, fun z hz => by cases hz; exact h1, h2⟩
set_option maxHeartbeats 4000000 in
set_option maxRecDepth 100000 in
theorem lz_s16 {s : State} {b : Nat} {A : Nat → Prop} (hA : ∀ a : Nat, a < s.heap.size → ¬ A a) (hts : ∀ w ∈ lw_tbl, w.before #[Value.ref b] s = true) (hs : ∀ c ∈ flatC (Jvm.Cond.and given_1 narrow_1), c.before #[Value.ref b] s = true) : ∃ q, lz_P A s 16 q := by
  obtain ⟨q, h1, h2⟩ := lz_one (args := #[Value.ref b]) (s := s) (own := "SaintsRoadModel") (k := 212) (tx := "moved") (n := 5) [109, 111, 118, 101, 100] (A := A) (by decide) (hts _ (List.mem_of_getElem? (i := 1318) (by decide +kernel))) (hs _ (by decide +kernel)) (hs _ (by decide +kernel)) (hs _ (by decide +kernel)) (hs _ (by decide +kernel)) (fun j hj => by
    match j, hj with
    | 0, _ => exact hs _ (by decide +kernel)
    | 1, _ => exact hs _ (by decide +kernel)
    | 2, _ => exact hs _ (by decide +kernel)
    | 3, _ => exact hs _ (by decide +kernel)
    | 4, _ => exact hs _ (by decide +kernel)
    | j + 5, h => omega) hA
  exact ⟨q, fun z hz => by cases hz; exact h1, h2⟩
set_option maxHeartbeats 4000000 in
set_option maxRecDepth 100000 in
theorem lz_s17 {s : State} {b : Nat} {A : Nat → Prop} (hA : ∀ a : Nat, a < s.heap.size → ¬ A a) (hts : ∀ w ∈ lw_tbl, w.before #[Value.ref b] s = true) (hs : ∀ c ∈ flatC (Jvm.Cond.and given_1 narrow_1), c.before #[Value.ref b] s = true) : ∃ q, lz_P A s 17 q := by
  obtain ⟨q, h1, h2⟩ := lz_one (args := #[Value.ref b]) (s := s) (own := "SaintsRoadModel") (k := 214) (tx := "sunday") (n := 6) [115, 117, 110, 100, 97, 121] (A := A) (by decide) (hts _ (List.mem_of_getElem? (i := 1319) (by decide +kernel))) (hs _ (by decide +kernel)) (hs _ (by decide +kernel)) (hs _ (by decide +kernel)) (hs _ (by decide +kernel)) (fun j hj => by
    match j, hj with
    | 0, _ => exact hs _ (by decide +kernel)
    | 1, _ => exact hs _ (by decide +kernel)
    | 2, _ => exact hs _ (by decide +kernel)
    | 3, _ => exact hs _ (by decide +kernel)
    | 4, _ => exact hs _ (by decide +kernel)
    | 5, _ => exact hs _ (by decide +kernel)
    | j + 6, h => omega) hA
  exact ⟨q, fun z hz => by cases hz; exact h1, h2⟩
set_option maxHeartbeats 4000000 in
set_option maxRecDepth 100000 in
theorem lz_s18 {s : State} {b : Nat} {A : Nat → Prop} (hA : ∀ a : Nat, a < s.heap.size → ¬ A a) (hts : ∀ w ∈ lw_tbl, w.before #[Value.ref b] s = true) (hs : ∀ c ∈ flatC (Jvm.Cond.and given_1 narrow_1), c.before #[Value.ref b] s = true) : ∃ q, lz_P A s 18 q := by
  obtain ⟨q, h1, h2⟩ := lz_one (args := #[Value.ref b]) (s := s) (own := "SaintsRoadModel") (k := 216) (tx := "rank") (n := 4) [114, 97, 110, 107] (A := A) (by decide) (hts _ (List.mem_of_getElem? (i := 1327) (by decide +kernel))) (hs _ (by decide +kernel)) (hs _ (by decide +kernel)) (hs _ (by decide +kernel)) (hs _ (by decide +kernel)) (fun j hj => by
    match j, hj with
    | 0, _ => exact hs _ (by decide +kernel)
    | 1, _ => exact hs _ (by decide +kernel)
    | 2, _ => exact hs _ (by decide +kernel)
    | 3, _ => exact hs _ (by decide +kernel)
    | j + 4, h => omega) hA
  exact ⟨q, fun z hz => by cases hz; exact h1, h2⟩
set_option maxHeartbeats 4000000 in
set_option maxRecDepth 100000 in
theorem lz_s19 {s : State} {b : Nat} {A : Nat → Prop} (hA : ∀ a : Nat, a < s.heap.size → ¬ A a) (hts : ∀ w ∈ lw_tbl, w.before #[Value.ref b] s = true) (hs : ∀ c ∈ flatC (Jvm.Cond.and given_1 narrow_1), c.before #[Value.ref b] s = true) : ∃ q, lz_P A s 19 q := by
  obtain ⟨q, h1, h2⟩ := lz_one (args := #[Value.ref b]) (s := s) (own := "SaintsRoadModel") (k := 217) (tx := "vigil") (n := 5) [118, 105, 103, 105, 108] (A := A) (by decide) (hts _ (List.mem_of_getElem? (i := 1336) (by decide +kernel))) (hs _ (by decide +kernel)) (hs _ (by decide +kernel)) (hs _ (by decide +kernel)) (hs _ (by decide +kernel)) (fun j hj => by
    match j, hj with
    | 0, _ => exact hs _ (by decide +kernel)
    | 1, _ => exact hs _ (by decide +kernel)
    | 2, _ => exact hs _ (by decide +kernel)
    | 3, _ => exact hs _ (by decide +kernel)
    | 4, _ => exact hs _ (by decide +kernel)
    | j + 5, h => omega) hA
  exact ⟨q, fun z hz => by cases hz; exact h1, h2⟩
set_option maxHeartbeats 4000000 in
set_option maxRecDepth 100000 in
theorem lz_s20 {s : State} {b : Nat} {A : Nat → Prop} (hA : ∀ a : Nat, a < s.heap.size → ¬ A a) (hts : ∀ w ∈ lw_tbl, w.before #[Value.ref b] s = true) (hs : ∀ c ∈ flatC (Jvm.Cond.and given_1 narrow_1), c.before #[Value.ref b] s = true) : ∃ q, lz_P A s 20 q := by
  obtain ⟨q, h1, h2⟩ := lz_one (args := #[Value.ref b]) (s := s) (own := "SaintsRoadModel") (k := 218) (tx := "octave") (n := 6) [111, 99, 116, 97, 118, 101] (A := A) (by decide) (hts _ (List.mem_of_getElem? (i := 1337) (by decide +kernel))) (hs _ (by decide +kernel)) (hs _ (by decide +kernel)) (hs _ (by decide +kernel)) (hs _ (by decide +kernel)) (fun j hj => by
    match j, hj with
    | 0, _ => exact hs _ (by decide +kernel)
    | 1, _ => exact hs _ (by decide +kernel)
    | 2, _ => exact hs _ (by decide +kernel)
    | 3, _ => exact hs _ (by decide +kernel)
    | 4, _ => exact hs _ (by decide +kernel)
    | 5, _ => exact hs _ (by decide +kernel)
    | j + 6, h => omega) hA
  exact ⟨q, fun z hz => by cases hz; exact h1, h2⟩
set_option maxHeartbeats 4000000 in
set_option maxRecDepth 100000 in
theorem lz_s21 {s : State} {b : Nat} {A : Nat → Prop} (hA : ∀ a : Nat, a < s.heap.size → ¬ A a) (hts : ∀ w ∈ lw_tbl, w.before #[Value.ref b] s = true) (hs : ∀ c ∈ flatC (Jvm.Cond.and given_1 narrow_1), c.before #[Value.ref b] s = true) : ∃ q, lz_P A s 21 q := by
  obtain ⟨q, h1, h2⟩ := lz_one (args := #[Value.ref b]) (s := s) (own := "SaintsRoadModel") (k := 219) (tx := "from") (n := 4) [102, 114, 111, 109] (A := A) (by decide) (hts _ (List.mem_of_getElem? (i := 1338) (by decide +kernel))) (hs _ (by decide +kernel)) (hs _ (by decide +kernel)) (hs _ (by decide +kernel)) (hs _ (by decide +kernel)) (fun j hj => by
    match j, hj with
    | 0, _ => exact hs _ (by decide +kernel)
    | 1, _ => exact hs _ (by decide +kernel)
    | 2, _ => exact hs _ (by decide +kernel)
    | 3, _ => exact hs _ (by decide +kernel)
    | j + 4, h => omega) hA
  exact ⟨q, fun z hz => by cases hz; exact h1, h2⟩
set_option maxHeartbeats 4000000 in
set_option maxRecDepth 100000 in
theorem lz_s22 {s : State} {b : Nat} {A : Nat → Prop} (hA : ∀ a : Nat, a < s.heap.size → ¬ A a) (hts : ∀ w ∈ lw_tbl, w.before #[Value.ref b] s = true) (hs : ∀ c ∈ flatC (Jvm.Cond.and given_1 narrow_1), c.before #[Value.ref b] s = true) : ∃ q, lz_P A s 22 q := by
  obtain ⟨q, h1, h2⟩ := lz_one (args := #[Value.ref b]) (s := s) (own := "SaintsRoadModel") (k := 220) (tx := "till") (n := 4) [116, 105, 108, 108] (A := A) (by decide) (hts _ (List.mem_of_getElem? (i := 1339) (by decide +kernel))) (hs _ (by decide +kernel)) (hs _ (by decide +kernel)) (hs _ (by decide +kernel)) (hs _ (by decide +kernel)) (fun j hj => by
    match j, hj with
    | 0, _ => exact hs _ (by decide +kernel)
    | 1, _ => exact hs _ (by decide +kernel)
    | 2, _ => exact hs _ (by decide +kernel)
    | 3, _ => exact hs _ (by decide +kernel)
    | j + 4, h => omega) hA
  exact ⟨q, fun z hz => by cases hz; exact h1, h2⟩
theorem lz_strs {s : State} {b : Nat} {A : Nat → Prop} (hA : ∀ a : Nat, a < s.heap.size → ¬ A a) (hts : ∀ w ∈ lw_tbl, w.before #[Value.ref b] s = true) (hs : ∀ c ∈ flatC (Jvm.Cond.and given_1 narrow_1), c.before #[Value.ref b] s = true) : ∃ ad : Nat → Nat × Nat, ∀ i : Nat, i < 23 → lz_P A s i (ad i) := by
  have h0 : ∀ i : Nat, ∃ q : Nat × Nat, i < 23 → lz_P A s i q := by
    intro i
    match i with
    | 0 => obtain ⟨q, h⟩ := lz_s0 hA hts hs; exact ⟨q, fun _ => h⟩
    | 1 => obtain ⟨q, h⟩ := lz_s1 hA hts hs; exact ⟨q, fun _ => h⟩
    | 2 => obtain ⟨q, h⟩ := lz_s2 hA hts hs; exact ⟨q, fun _ => h⟩
    | 3 => obtain ⟨q, h⟩ := lz_s3 hA hts hs; exact ⟨q, fun _ => h⟩
    | 4 => obtain ⟨q, h⟩ := lz_s4 hA hts hs; exact ⟨q, fun _ => h⟩
    | 5 => obtain ⟨q, h⟩ := lz_s5 hA hts hs; exact ⟨q, fun _ => h⟩
    | 6 => obtain ⟨q, h⟩ := lz_s6 hA hts hs; exact ⟨q, fun _ => h⟩
    | 7 => obtain ⟨q, h⟩ := lz_s7 hA hts hs; exact ⟨q, fun _ => h⟩
    | 8 => obtain ⟨q, h⟩ := lz_s8 hA hts hs; exact ⟨q, fun _ => h⟩
    | 9 => obtain ⟨q, h⟩ := lz_s9 hA hts hs; exact ⟨q, fun _ => h⟩
    | 10 => obtain ⟨q, h⟩ := lz_s10 hA hts hs; exact ⟨q, fun _ => h⟩
    | 11 => obtain ⟨q, h⟩ := lz_s11 hA hts hs; exact ⟨q, fun _ => h⟩
    | 12 => obtain ⟨q, h⟩ := lz_s12 hA hts hs; exact ⟨q, fun _ => h⟩
    | 13 => obtain ⟨q, h⟩ := lz_s13 hA hts hs; exact ⟨q, fun _ => h⟩
    | 14 => obtain ⟨q, h⟩ := lz_s14 hA hts hs; exact ⟨q, fun _ => h⟩
    | 15 => obtain ⟨q, h⟩ := lz_s15 hA hts hs; exact ⟨q, fun _ => h⟩
    | 16 => obtain ⟨q, h⟩ := lz_s16 hA hts hs; exact ⟨q, fun _ => h⟩
    | 17 => obtain ⟨q, h⟩ := lz_s17 hA hts hs; exact ⟨q, fun _ => h⟩
    | 18 => obtain ⟨q, h⟩ := lz_s18 hA hts hs; exact ⟨q, fun _ => h⟩
    | 19 => obtain ⟨q, h⟩ := lz_s19 hA hts hs; exact ⟨q, fun _ => h⟩
    | 20 => obtain ⟨q, h⟩ := lz_s20 hA hts hs; exact ⟨q, fun _ => h⟩
    | 21 => obtain ⟨q, h⟩ := lz_s21 hA hts hs; exact ⟨q, fun _ => h⟩
    | 22 => obtain ⟨q, h⟩ := lz_s22 hA hts hs; exact ⟨q, fun _ => h⟩
    | i + 23 => exact ⟨(0, 0), fun h => absurd h (by omega)⟩
  obtain ⟨ad, had⟩ := Classical.axiomOfChoice h0
  exact ⟨ad, had⟩
set_option maxHeartbeats 4000000 in
set_option maxRecDepth 100000 in
theorem lz_el_sv_mon {b : Nat} {s : State} (hs : ∀ c ∈ flatC (Jvm.Cond.and given_1 narrow_1), c.before #[Value.ref b] s = true) (j : Nat) (hj : j < 12) : (Term.elem (.static "SaintsRoad$Days" "MONTH_AT_MOST" "[I") (.int (Int32.ofNat j))).eval #[Value.ref b] s none [] s = some (sv_mon j) := by
  match j, hj with
  | 0, _ => exact va_eqt (hs _ (by decide +kernel))
  | 1, _ => exact va_eqt (hs _ (by decide +kernel))
  | 2, _ => exact va_eqt (hs _ (by decide +kernel))
  | 3, _ => exact va_eqt (hs _ (by decide +kernel))
  | 4, _ => exact va_eqt (hs _ (by decide +kernel))
  | 5, _ => exact va_eqt (hs _ (by decide +kernel))
  | 6, _ => exact va_eqt (hs _ (by decide +kernel))
  | 7, _ => exact va_eqt (hs _ (by decide +kernel))
  | 8, _ => exact va_eqt (hs _ (by decide +kernel))
  | 9, _ => exact va_eqt (hs _ (by decide +kernel))
  | 10, _ => exact va_eqt (hs _ (by decide +kernel))
  | 11, _ => exact va_eqt (hs _ (by decide +kernel))
  | n + 12, h => omega
set_option maxHeartbeats 4000000 in
set_option maxRecDepth 100000 in
theorem lz_el_sv_mst {b : Nat} {s : State} (hs : ∀ c ∈ flatC (Jvm.Cond.and given_1 narrow_1), c.before #[Value.ref b] s = true) (j : Nat) (hj : j < 12) : (Term.elem (.static "SaintsRoad$Days" "MONTH_START" "[I") (.int (Int32.ofNat j))).eval #[Value.ref b] s none [] s = some (sv_mst j) := by
  match j, hj with
  | 0, _ => exact va_eqt (hs _ (by decide +kernel))
  | 1, _ => exact va_eqt (hs _ (by decide +kernel))
  | 2, _ => exact va_eqt (hs _ (by decide +kernel))
  | 3, _ => exact va_eqt (hs _ (by decide +kernel))
  | 4, _ => exact va_eqt (hs _ (by decide +kernel))
  | 5, _ => exact va_eqt (hs _ (by decide +kernel))
  | 6, _ => exact va_eqt (hs _ (by decide +kernel))
  | 7, _ => exact va_eqt (hs _ (by decide +kernel))
  | 8, _ => exact va_eqt (hs _ (by decide +kernel))
  | 9, _ => exact va_eqt (hs _ (by decide +kernel))
  | 10, _ => exact va_eqt (hs _ (by decide +kernel))
  | 11, _ => exact va_eqt (hs _ (by decide +kernel))
  | n + 12, h => omega
theorem lz_nsW {ci : Nat} {r : vw_C} (h : vwCl[ci]? = some r) : Cond.instantiable r.1 r.2.2 ∈ lw_good := by
  match ci, h with
  | 0, h => cases h; exact lz_ns_X0
  | 1, h => cases h; exact lz_ns_X1
  | 2, h => cases h; exact lz_ns_X3
  | 3, h => cases h; exact lz_ns_X4
  | 4, h => cases h; exact lz_ns_X5
  | 5, h => cases h; exact lz_ns_X6
  | 6, h => cases h; exact lz_ns_X7
  | 7, h => cases h; exact lz_ns_X8
  | 8, h => cases h; exact lz_ns_X9
  | 9, h => cases h; exact lz_ns_X10
  | 10, h => cases h; exact lz_ns_X11
  | n + 11, h => simp [vwCl] at h
set_option maxHeartbeats 4000000 in
set_option maxRecDepth 100000 in
/-- the tables' words and the statics, as the rows want them -/
theorem lz_world {s : State} {b : Nat} (A : Nat → Prop) (hA : ∀ a : Nat, a < s.heap.size → ¬ A a) (hA2 : ∀ q : Nat, s.heap.size ≤ q → A q) (hts : ∀ w ∈ lw_tbl, w.before #[Value.ref b] s = true) (hgv : (Jvm.Cond.and given_1 narrow_1).before #[Value.ref b] s = true) : ∃ g : sv_G, sv_K g A s ∧ sv_J A s := by
  have hw : ∀ w ∈ lw_good, w.before #[Value.ref b] s = true := fun w h => hts w (List.mem_filter.mp h).1
  have hs := flat_of_before _ hgv
  have hc : ∀ ci : Nat, ∃ x : ClassId × (Nat → Nat), ∀ r : vw_C, vwCl[ci]? = some r → u_Kn s r.1 r.2.1 r.2.2 x.1 x.2 := by
    intro ci
    cases h : vwCl[ci]? with
    | none => exact ⟨(0, fun _ => 0), fun r hr => by cases hr⟩
    | some r =>
      obtain ⟨cC, iS, hk⟩ := u_known hw (sv_cls h).1 (hw _ (lz_nsW h))
      exact ⟨(cC, iS), fun r' hr => by cases hr; exact hk⟩
  obtain ⟨c_int, k_int, p_int, f1_int, f2_int, f3_int⟩ := Cond.arrayClass_spec (hw _ lz_a_int)
  obtain ⟨c_byte, k_byte, p_byte, f1_byte, f2_byte, f3_byte⟩ := Cond.arrayClass_spec (hw _ lz_a_byte)
  obtain ⟨c_boolean, k_boolean, p_boolean, f1_boolean, f2_boolean, f3_boolean⟩ := Cond.arrayClass_spec (hw _ lz_a_boolean)
  have o_Feast := (hts (Cond.arrayOver (.object "SaintsRoad$Feast")) (List.mem_of_getElem? (i := 179) (by decide +kernel)))
  obtain ⟨p_Feast, c_Feast, k_Feast, f1_Feast, f2_Feast, f3_Feast, f4_Feast, f5_Feast⟩ := Cond.arrayOver_spec o_Feast
  have o_Place := (hts (Cond.arrayOver (.object "SaintsRoad$Place")) (List.mem_of_getElem? (i := 166) (by decide +kernel)))
  obtain ⟨p_Place, c_Place, k_Place, f1_Place, f2_Place, f3_Place, f4_Place, f5_Place⟩ := Cond.arrayOver_spec o_Place
  have o_Procession := (hts (Cond.arrayOver (.object "SaintsRoad$Procession")) (List.mem_of_getElem? (i := 364) (by decide +kernel)))
  obtain ⟨p_Procession, c_Procession, k_Procession, f1_Procession, f2_Procession, f3_Procession, f4_Procession, f5_Procession⟩ := Cond.arrayOver_spec o_Procession
  obtain ⟨t_sv_mon, e_sv_mon, m_sv_mon⟩ := va_Tof (args := #[Value.ref b]) (s := s) (tm := (.static "SaintsRoad$Days" "MONTH_AT_MOST" "[I")) (ty := .int) (N := 12) (f := sv_mon) (A := A) (by decide) (hs _ (by decide +kernel)) (va_eqt (hs _ (by decide +kernel))) (fun j hj => lz_el_sv_mon hs j hj) hA
  have z_sv_mon := va_Zof (A := A) (hts (Cond.laysStatic "SaintsRoad$Days" "MONTH_AT_MOST" "[I") (List.mem_of_getElem? (i := 588) (by decide +kernel))) (hw _ lz_in_D) e_sv_mon hA
  obtain ⟨t_sv_mst, e_sv_mst, m_sv_mst⟩ := va_Tof (args := #[Value.ref b]) (s := s) (tm := (.static "SaintsRoad$Days" "MONTH_START" "[I")) (ty := .int) (N := 12) (f := sv_mst) (A := A) (by decide) (hs _ (by decide +kernel)) (va_eqt (hs _ (by decide +kernel))) (fun j hj => lz_el_sv_mst hs j hj) hA
  have z_sv_mst := va_Zof (A := A) (hts (Cond.laysStatic "SaintsRoad$Days" "MONTH_START" "[I") (List.mem_of_getElem? (i := 657) (by decide +kernel))) (hw _ lz_in_D) e_sv_mst hA
  obtain ⟨ad, had⟩ := lz_strs hA hts hs
  have z_cs := va_Zof (A := A) (hts (Cond.laysStatic "java/lang/String" "COMPACT_STRINGS" "Z") (List.mem_of_getElem? (i := 502) (by decide +kernel))) (hw _ lz_in_S) (va_eqt (hs (Cond.eq (.static "java/lang/String" "COMPACT_STRINGS" "Z") (.int 1)) (by decide +kernel))) hA
  have z_pf := va_Zqof (A := A) (hts (Cond.laysStatic "jdk/internal/util/Preconditions" "SIOOBE_FORMATTER" "Ljava/util/function/BiFunction;") (List.mem_of_getElem? (i := 518) (by decide +kernel))) (hw _ lz_in_P) (hs _ (by decide +kernel)) hA
  refine ⟨((fun ci => (Classical.choose (hc ci)).1, fun ci => (Classical.choose (hc ci)).2), (fun t => match t with | .int => c_int | .byte => c_byte | .boolean => c_boolean | .object n => if n = "SaintsRoad$Feast" then c_Feast else if n = "SaintsRoad$Place" then c_Place else c_Procession | _ => 0), t_sv_mon, t_sv_mst, fun i => (ad i).1, fun i => (ad i).2), ⟨⟨fun ci r hr => Classical.choose_spec (hc ci) r hr, fun k q hq => ?_⟩, fun w h => ?_, ⟨z_sv_mon, m_sv_mon⟩, z_sv_mst, m_sv_mst, fun i hi => had i hi, z_cs, z_pf⟩, hA2, ⟨va_AO.of o_Feast, va_AO.of o_Place, va_AO.of o_Procession⟩, ?_, ?_⟩
  · match k, hq with
    | 0, hq => cases hq; exact ⟨fun n z => ⟨(fun k h => by cases h), k_int, f2_int, p_int, f3_int⟩, f1_int⟩
    | 1, hq => cases hq; exact ⟨fun n z => ⟨(fun k h => by cases h), k_byte, f2_byte, p_byte, f3_byte⟩, f1_byte⟩
    | 2, hq => cases hq; exact ⟨fun n z => ⟨(fun k h => by cases h), k_boolean, f2_boolean, p_boolean, f3_boolean⟩, f1_boolean⟩
    | 3, hq => cases hq; exact ⟨fun n z => ⟨(fun k h => by cases h), k_Feast, f3_Feast, p_Feast, f4_Feast⟩, k_Feast, p_Feast, f3_Feast, f4_Feast, f1_Feast, f5_Feast⟩
    | 4, hq => cases hq; exact ⟨fun n z => ⟨(fun k h => by cases h), k_Place, f3_Place, p_Place, f4_Place⟩, k_Place, p_Place, f3_Place, f4_Place, f1_Place, f5_Place⟩
    | 5, hq => cases hq; exact ⟨fun n z => ⟨(fun k h => by cases h), k_Procession, f3_Procession, p_Procession, f4_Procession⟩, k_Procession, p_Procession, f3_Procession, f4_Procession, f1_Procession, f5_Procession⟩
    | n + 6, hq => simp [sv_tys] at hq
  · have h2 := List.mem_filter.mp h
    have h3 := hts w h2.1
    have h4 := h2.2
    cases w <;> first | exact va_Nw.of rfl h3 | cases h4
  · exact va_Zqof (hts (Cond.laysStatic "java/lang/Throwable" "UNASSIGNED_STACK" "[Ljava/lang/StackTraceElement;") (List.mem_of_getElem? (i := 1069) (by decide +kernel))) (hw _ lz_in_T) (hs _ (by decide +kernel)) hA
  · exact va_Zqof (hts (Cond.laysStatic "java/lang/Throwable" "SUPPRESSED_SENTINEL" "Ljava/util/List;") (List.mem_of_getElem? (i := 1071) (by decide +kernel))) (hw _ lz_in_T) (hs _ (by decide +kernel)) hA
theorem sv_mk {A : Nat → Prop} {ty ty' : Nat → Nat} {σ σ' : Nat → Nat → Int} {q K : Nat} (hI : ∀ x, sv_fi ty (σ x) (ty x)) (hq : ty q = 0) (hp : sv_po A q K (sv_upt ty q K) (sv_zr σ q) ty' σ') : (∀ x, sv_fi ty' (σ' x) (ty' x)) ∧ ∀ x, ty x ≠ 0 → ty' x = ty x := by
  obtain ⟨⟨c1, c2, c3, c4, c5⟩, d1, d2⟩ := hp
  have hk : ∀ x, ty x ≠ 0 → ty' x = ty x := fun x hx => by
    have e : x ≠ q := fun e => hx (by rw [e]; exact hq)
    have h1 := c1 x (by rw [sv_upt_n e]; exact hx)
    rw [h1, sv_upt_n e]
  refine ⟨fun x => ?_, hk⟩
  by_cases e : x = q
  · subst e; rw [d1]; exact d2
  · by_cases h0 : ty x = 0
    · exact c3 x (by rw [sv_upt_n e]; exact h0) e
    · rw [hk x h0, c2 x (by rw [sv_upt_n e]; exact h0) e, sv_zr_n e]
      exact (hI x).ext hk
set_option maxHeartbeats 4000000 in
set_option maxRecDepth 100000 in
/-- from the entry, for every script of at most 3072 ints, the law comes to its end with true -/
theorem whole_start {p : Program} {e : Env} {s : State} {m : MethodId} {below : List Frame} {meth : Method} {c : Code} (l : Launch) {b L : Nat} {xs : Nat → Int32} (hL : L ≤ 3072) (C0 : lw_At p s m meth c b L xs) : W p l e room_1 s m #[Value.ref b] below meth c s.heap [] 0 0 (lw_Z below #[Value.ref b] s) (entryFrame m ([Value.ref b] : List Value).toArray 4) := by
  obtain ⟨hx, hb, hr, hml, hown, hts, hX, hbl, hlk, hgv⟩ := C0
  obtain ⟨g, hK, hJ⟩ := lz_world (fun q => s.heap.size ≤ q) (fun a h q => absurd q (Nat.not_le.mpr h)) (fun q h => h) hts hgv
  generalize hAe : (fun q => s.heap.size ≤ q) = A at hK hJ
  have hw : ∀ w ∈ lw_good, w.before #[Value.ref b] s = true := fun w h => hts w (List.mem_filter.mp h).1
  have C : sv_C g A R_law code 4 p s m #[Value.ref b] meth c := ⟨hx, hb, hml, hown, hw, hK, hlk⟩
  have T : lz_K p s m meth c g A b L xs := ⟨C, hX, hbl, by rw [← hAe]; exact Nat.not_le.mpr hbl, fun q h => by rw [← hAe] at h; exact h, hr⟩
  have V0 : lz_V p l e s m below meth c b A 0 0 (sv_H g (fun _ => 0) (fun _ _ => 0)) 0 [(0, sv_r b)] [] := by
    have t0 : sv_TT A (fun _ => 0) := fun q h => absurd rfl h
    have o0 : sv_ok (fun _ => 0) (fun _ _ => 0) := fun q => trivial
    have i0 : ∀ x, sv_fi (fun _ => 0) ((fun _ _ => 0 : Nat → Nat → Int) x) ((fun _ => 0 : Nat → Nat) x) := fun x k => ⟨trivial, trivial⟩
    generalize (fun _ => 0 : Nat → Nat) = ty0 at t0 o0 i0 ⊢
    generalize (fun _ _ => 0 : Nat → Nat → Int) = σ0 at o0 i0 ⊢
    refine sv_new C hJ (K := 1) (r := (RX9, TX9, 6)) (by decide +kernel) rfl rfl lz_kl_7 lz_ns_X9 lz_in_X9 t0 o0 (Nat.le_of_ble_eq_true rfl) (Nat.le_of_ble_eq_true rfl) fun x x0 xA ox => ?_
    refine sv_go C.1 C.2.1 [(.dup, 1)] (pc' := 4) (by decide +kernel) rfl (lv' := [(0, sv_r b)]) (st' := [sv_r x, sv_r x]) rfl ?_
    have t1 : sv_TT A (sv_upt ty0 x 1) := fun q h => by
      by_cases e : q = x
      · subst e; rw [sv_upt_s]; exact ⟨by decide, xA⟩
      · rw [sv_upt_n e] at h ⊢; exact t0 q h
    refine sv_ci C hJ (a := x) (as := []) (k := 0) (rest := [sv_r x]) (by decide +kernel) (ct_X9_init2 l g A x _ _ t1 ox (sv_upt_s _ _ _) (fun k => sv_zr_s _ _ _)) ⟨lz_co_X9_init, lz_in_X9, ⟨by decide, by decide, by decide +kernel⟩, Nat.le_of_ble_eq_true rfl, Nat.le_of_ble_eq_true rfl⟩ lz_ml_9 lz_im_X9_init rfl rfl rfl (Nat.le_of_ble_eq_true rfl) ⟨Nat.le_of_ble_eq_true rfl, Nat.le_of_ble_eq_true rfl⟩ fun ty1 σ1 hp1 => ?_
    obtain ⟨hp1, hz9⟩ := hp1
    obtain ⟨i1, -⟩ := sv_mk i0 x0 hp1
    have t2 := hp1.1.2.2.2.1
    have o1 := hp1.1.2.2.2.2
    have x1 := hp1.2.1
    refine sv_go C.1 C.2.1 [(.astore_n 1, 1)] (pc' := 8) (by decide +kernel) rfl (lv' := [(0, sv_r b), (1, sv_r x)]) (st' := []) rfl ?_
    refine sv_new C hJ (K := 10) (r := (RX11, TX11, 47)) (by decide +kernel) rfl rfl lz_kl_10 lz_ns_X11 lz_in_X11 t2 o1 (Nat.le_of_ble_eq_true rfl) (Nat.le_of_ble_eq_true rfl) fun mm m0 mA om => ?_
    refine sv_go C.1 C.2.1 [(.dup, 1)] (pc' := 12) (by decide +kernel) rfl (lv' := [(0, sv_r b), (1, sv_r x)]) (st' := [sv_r mm, sv_r mm]) rfl ?_
    have t3 : sv_TT A (sv_upt ty1 mm 10) := fun q h => by
      by_cases e : q = mm
      · subst e; rw [sv_upt_s]; exact ⟨by decide, mA⟩
      · rw [sv_upt_n e] at h ⊢; exact t2 q h
    refine sv_ci C hJ (a := mm) (as := []) (k := 0) (rest := [sv_r mm]) (by decide +kernel) (ct_X11_init l g A mm _ _ t3 om (sv_upt_s _ _ _) (fun k => sv_zr_s _ _ _)) ⟨lz_co_X11_init, lz_in_X11, ⟨by decide, by decide, by decide +kernel⟩, Nat.le_of_ble_eq_true rfl, Nat.le_of_ble_eq_true rfl⟩ lz_ml_12 lz_im_X11_init rfl rfl rfl (Nat.le_of_ble_eq_true rfl) ⟨Nat.le_of_ble_eq_true rfl, Nat.le_of_ble_eq_true rfl⟩ fun ty2 σ2 hp2 => ?_
    obtain ⟨i2, k2⟩ := sv_mk i1 m0 hp2
    refine sv_go C.1 C.2.1 [(.astore_n 2, 1), (.iconst 0, 1), (.istore_n 3, 1)] (pc' := 18) (by decide +kernel) rfl (lv' := [(0, sv_r b), (1, sv_r x), (2, sv_r mm), (3, sv_i 0)]) (st' := []) rfl ?_
    refine sv_cnteq (cells' := 433) (slots' := 29939) rfl rfl ?_
    exact lz_loop T hL (L + 7) 0 σ2 (by omega) (by omega) ⟨hp2.1.2.2.2.2, fun q h => (hp2.1.2.2.2.1 q h).2, fun a k => (i2 a k).1, (k2 x (by rw [x1]; decide)).trans x1, hp2.2.1, lz_init hp2.2.1 (fun a k => (i2 a k).1) (fun a k => (i2 a k).2) (zd9_mv (sv_mk2 m0 hp2) x1 hz9)⟩ (by omega)
  have hl := lv_entry (([sv_r b] : List sv_T).map sv_den) (n := 4) (Nat.le_of_ble_eq_true rfl)
  rw [sv_av_eq] at hl
  have V1 := V0 s.heap [] _ (fun a => trivial) va_S.rf hl
  rw [show ([Value.ref b] : List Value).toArray = ((([sv_r b] : List sv_T).map sv_den).toArray) from rfl, lg_entry_eq]
  exact V1
set_option maxHeartbeats 4000000 in
theorem lw_walk (l : Launch) (b : Addr) (xs : List Int32) : MetFree l x (headSpec (Jvm.Cond.code x code maxLocals ret :: tables_1) room_1) (lw_P b xs) (fun _ _ _ _ _ => True) lw_Q := by
  refine MetFree.of_bodyS (code := code) (maxLocals := maxLocals) (ret := ret) (by decide) ?_ ?_
  · intro args s m h hn
    obtain ⟨meth, c, h1, h2, h3, h4, h5, h6, -, -⟩ := Cond.code_spec hn (atoms_spec (ws := Jvm.Cond.code x code maxLocals ret :: tables_1) h _ List.mem_cons_self)
    exact ⟨meth, c, h1, h2, h3, h4, h5, h6⟩
  · intro p e s m args below meth c s₁ B hml0 hP _
    obtain ⟨rfl, hx, hbd, hgv⟩ := hP
    obtain ⟨scr, harrAt, hlist, hof, hsmall⟩ := hx
    obtain ⟨hcb, hkn, -, -⟩ := State.arrayAt?_spec harrAt
    have hown : s.vm.findClass R_law = some m.cls := findClass_of_methodNamed B.named
    have hts0 : ∀ c ∈ (Jvm.Cond.code x code maxLocals ret :: tables_1), c.before #[Value.ref b] s = true := atoms_spec (ws := Jvm.Cond.code x code maxLocals ret :: tables_1) B.pre
    have hts : ∀ w ∈ lw_tbl, w.before #[Value.ref b] s = true := k2_hts_sels lw_privs (fun w hw => hts0 w (List.mem_cons_of_mem _ hw)) lw_privs_ok
    have hml : c.maxLocals = 4 := B.maxLocals_eq (hts0 _ List.mem_cons_self)
    have X₀ : Stand p l e room_1 s m #[Value.ref b] below meth c s₁ [] 0 0 := Stand.of_body B
    have hh0 : s₁.heap = s.heap := by rw [B.state]; rfl
    have hsz : scr.slots.size = xs.length := by rw [← Array.length_toList, hlist, List.length_map]
    have hval : ∀ j : Nat, j < xs.length → scr.slots[j]? = some (.int (xs.getD j 0)) := fun j hj => by
      rw [← Array.getElem?_toList, hlist]
      simp [hj]
    have hbl : b < s.heap.size := (Array.getElem?_eq_some_iff.mp hcb).1
    have hX : va_X b xs.length (fun j => xs.getD j 0) s s.heap := ⟨scr, hcb, hof, hkn, hsz, hval⟩
    have K : W p l e room_1 s m #[Value.ref b] below meth c s₁.heap [] 0 0 (lw_Z below #[Value.ref b] s) (entryFrame m ([Value.ref b] : List Value).toArray 4) := by
      rw [hh0]
      exact whole_start l hbd ⟨B.exec, B.bytes, B.returns, hml, hown, hts, hX, hbl, B.notSynchronized, hgv⟩
    obtain ⟨t, a1, o, b1, b2, b3⟩ := K s₁ rfl X₀
    exact ⟨t, o, a1, b1, b2, b3⟩
theorem lw_pre_spec {args : Array Value} {s : State} (h : (Jvm.Cond.and given_1 narrow_1).before args s = true) (hr : rest_1_c.before args s = true) : ∃ (b : Addr) (xs : List Int32), lw_P b xs args s := by
  have hs := flat_of_before _ h
  have hq := flat_of_before _ hr
  have hc : (Cond.count 1).before args s = true := hs _ (by decide +kernel)
  have harr : (Cond.arrayOf (.arg 0) .int).before args s = true := hs _ (by decide +kernel)
  have hle : (Cond.le (.length (.arg 0)) (.int 3072)).before args s = true := hs _ (by decide +kernel)
  have hlen : (Cond.isInt (.length (.arg 0))).before args s = true := hq _ (by decide +kernel)
  have hall : (Cond.all (.arg 0) (.isInt (.elem (.arg 0) (.index 0)))).before args s = true := hq _ (by decide +kernel)
  obtain ⟨b, xs, hb, hx⟩ := State.ints_of_pre rfl harr hlen hall
  have hsm : xs.length < 2 ^ 31 := hx.choose_spec.2.2.2
  have hev : (Term.length (.arg 0)).eval args s none [] s = some (.int xs.length.toInt32) := hx.length_eval hb
  have hv := Cond.le_ints hev (show (Term.int 3072).eval args s none [] s = some (.int 3072) from rfl)
  have hd : xs.length.toInt32 ≤ 3072 := by
    simpa [Cond.before, Cond.holds, hv] using hle
  have hN : xs.length ≤ 3072 := (Int32.ofNat_le_ofNat hsm (by decide)).mp (show Int32.ofNat xs.length ≤ Int32.ofNat 3072 from hd)
  exact ⟨b, xs, Cond.one_arg hc (show args[0]? = some (.ref b) from hb), hx, hN, h⟩
theorem lw_comes (l : Launch) : Comes l x (Jvm.Cond.code x code maxLocals ret :: tables_1) room_1 (fun tb e args s => Calls_1 tb e args s ∧ rest_1 tb e args s ∧ Pre_1 tb e args s)
    (fun _ _ args s o t => lw_Q args s o t) := by
  intro p e ha hc hk s m args below hf hfit hheap happ hpre
  obtain ⟨b, xs, hP⟩ := lw_pre_spec hpre.2.2 hpre.2.1
  obtain ⟨k, o, h1, h2, h3, hQ⟩ := lw_walk l b xs p e ha hc hk s m args below hf ((Spec.applies_iff_loose hf).mp happ).1 hP trivial
  exact ⟨k, o, h1, h2, h3, hQ⟩
theorem lw_frame {s t : State} {o : Outcome} {args : Array Value} (h : Framed s o t [] 601024 7293033) :
    Framed s o t (fieldLocs frame_1_writes args s ++ arrayLocs frame_1_arrays args s ++ staticLocs frame_1_statics s) 601024 7293033 := h
theorem lw_limb (L : Cond) (hL : ∀ (args : Array Value) (s t : State), L.after args s (.returned (some (.int 1))) t = true) :
    ArmFor flags0 classFile x code maxLocals ret World_1 tables_1 room_1 Calls_1 rest_1 Pre_1
      (fun tb e a s o t => postC L tb e a s o t ∧ Framed s o t (fieldLocs frame_1_writes a s ++ arrayLocs frame_1_arrays a s ++ staticLocs frame_1_statics s) 601024 7293033) := by
  intro l _ _ _ p e ha hc hk s m args below hf hfit hheap happ hpre
  obtain ⟨k, o, h1, h2, h3, rfl, hF⟩ := lw_comes l p e ha hc hk s m args below hf hfit hheap happ hpre
  exact ⟨k, _, h1, h2, h3, hL args s _, lw_frame hF⟩
theorem i_vc : Claimed_1_1 ∧ Claimed_1_2 := ⟨lw_limb limb_1_1 (fun args s t => by simp [limb_1_1, Cond.after, Cond.holds, Cond.value]), lw_limb limb_1_2 (fun args s t => Cond.after_iff.mpr (by
  first | (rw [show limb_1_2 = Cond.eq .result (.int 1) from rfl, Cond.eq_ints (x := 1) (y := 1) rfl rfl]; simp; done) | (simp [limb_1_2, Cond.value, Term.eval]; done)))⟩
