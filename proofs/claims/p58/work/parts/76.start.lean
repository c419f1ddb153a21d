/-! what the tables and the premises give at the start -/
theorem gv_w {C w : Cond} {args : Array Value} {s : State} (h : C.before args s = true) (k : Nat) (hk : (flatC C)[k]? = some w) : w.before args s = true := flat_of_before _ h w (List.mem_of_getElem? hk)
def GVs (args : Array Value) (s : State) : Prop := narrow_1_1.before args s = true ∧ narrow_1_2.before args s = true ∧ narrow_1_3.before args s = true ∧ narrow_1_4.before args s = true
theorem gv_s {args : Array Value} {s : State} (h : (Jvm.Cond.and given_1 narrow_1).before args s = true) : GVs args s := by
  rw [Cond.before_and, Bool.and_eq_true] at h
  have h2 : (Jvm.Cond.and (Jvm.Cond.and narrow_1_1 narrow_1_2) (Jvm.Cond.and narrow_1_3 narrow_1_4)).before args s = true := h.2
  rw [Cond.before_and, Cond.before_and, Cond.before_and, Bool.and_eq_true, Bool.and_eq_true, Bool.and_eq_true] at h2
  exact ⟨h2.1.1, h2.1.2, h2.2.1, h2.2.2⟩
set_option maxRecDepth 100000 in
set_option maxHeartbeats 4000000 in
theorem st_tap {args : Array Value} {s : State} {A : Nat → Prop} (hts : ∀ w ∈ lw_tbl, w.before args s = true) (hg : GVs args s) (hA : ∀ a : Nat, a < s.heap.size → ¬ A a) : ∃ t, va_Z "BathLeague" "TAP_DEGREES" "[I" (.ref t) A s s.heap ∧ va_T .int t 3 tapV A s s.heap := by
  have h4 : ∀ j, j < 3 → (flatC narrow_1_1)[8 + j]? = some (.eq (.elem (.static "BathLeague" "TAP_DEGREES" "[I") (.int (Int32.ofNat j))) (.int (nI (10 + 30 * j)))) := by decide +kernel
  obtain ⟨t, ht, hT⟩ := va_Tof (tm := (.static "BathLeague" "TAP_DEGREES" "[I")) (ty := .int) (N := 3) (f := tapV) (A := A) (by decide) (gv_w hg.1 6 (by decide +kernel)) (va_eqt (gv_w hg.1 7 (by decide +kernel))) (fun j hj => va_eqt (gv_w hg.1 (8 + j) (h4 j hj))) hA
  exact ⟨t, va_Zref (hts (.laysStatic "BathLeague" "TAP_DEGREES" "[I") (by decide +kernel)) (hts (.initialized "BathLeague") (by decide +kernel)) ht hA, hT⟩
set_option maxRecDepth 100000 in
set_option maxHeartbeats 4000000 in
theorem st_one {args : Array Value} {s : State} {A : Nat → Prop} (hts : ∀ w ∈ lw_tbl, w.before args s = true) (hg : GVs args s) (hA : ∀ a : Nat, a < s.heap.size → ¬ A a) : ∃ t, va_Z "java/lang/Integer" "DigitOnes" "[B" (.ref t) A s s.heap ∧ va_T .byte t 100 oneV A s s.heap := by
  have h4 : ∀ j, j < 100 → (flatC narrow_1_1)[14 + j]? = some (.eq (.elem (.static "java/lang/Integer" "DigitOnes" "[B") (.int (Int32.ofNat j))) (.int (nI (48 + j % 10)))) := by decide +kernel
  obtain ⟨t, ht, hT⟩ := va_Tof (tm := (.static "java/lang/Integer" "DigitOnes" "[B")) (ty := .byte) (N := 100) (f := oneV) (A := A) (by decide) (gv_w hg.1 12 (by decide +kernel)) (va_eqt (gv_w hg.1 13 (by decide +kernel))) (fun j hj => va_eqt (gv_w hg.1 (14 + j) (h4 j hj))) hA
  exact ⟨t, va_Zref (hts (.laysStatic "java/lang/Integer" "DigitOnes" "[B") (by decide +kernel)) (hts (.initialized "java/lang/Integer") (by decide +kernel)) ht hA, hT⟩
set_option maxRecDepth 100000 in
set_option maxHeartbeats 4000000 in
theorem st_ten {args : Array Value} {s : State} {A : Nat → Prop} (hts : ∀ w ∈ lw_tbl, w.before args s = true) (hg : GVs args s) (hA : ∀ a : Nat, a < s.heap.size → ¬ A a) : ∃ t, va_Z "java/lang/Integer" "DigitTens" "[B" (.ref t) A s s.heap ∧ va_T .byte t 100 tenV A s s.heap := by
  have h4 : ∀ j, j < 100 → (flatC narrow_1_1)[117 + j]? = some (.eq (.elem (.static "java/lang/Integer" "DigitTens" "[B") (.int (Int32.ofNat j))) (.int (nI (48 + j / 10)))) := by decide +kernel
  obtain ⟨t, ht, hT⟩ := va_Tof (tm := (.static "java/lang/Integer" "DigitTens" "[B")) (ty := .byte) (N := 100) (f := tenV) (A := A) (by decide) (gv_w hg.1 115 (by decide +kernel)) (va_eqt (gv_w hg.1 116 (by decide +kernel))) (fun j hj => va_eqt (gv_w hg.1 (117 + j) (h4 j hj))) hA
  exact ⟨t, va_Zref (hts (.laysStatic "java/lang/Integer" "DigitTens" "[B") (by decide +kernel)) (hts (.initialized "java/lang/Integer") (by decide +kernel)) ht hA, hT⟩
set_option maxRecDepth 100000 in
set_option maxHeartbeats 4000000 in
theorem st_cmp {args : Array Value} {s : State} {A : Nat → Prop} (hts : ∀ w ∈ lw_tbl, w.before args s = true) (hg : GVs args s) (hA : ∀ a : Nat, a < s.heap.size → ¬ A a) : va_Z "java/lang/String" "COMPACT_STRINGS" "Z" (.int 1) A s s.heap := va_Zof (hts (.laysStatic "java/lang/String" "COMPACT_STRINGS" "Z") (by decide +kernel)) (hts (.initialized "java/lang/String") (by decide +kernel)) (va_eqi (gv_w hg.1 2 (by decide +kernel))) hA
set_option maxRecDepth 100000 in
set_option maxHeartbeats 4000000 in
theorem st_fmt {args : Array Value} {s : State} {A : Nat → Prop} (hts : ∀ w ∈ lw_tbl, w.before args s = true) (hg : GVs args s) (hA : ∀ a : Nat, a < s.heap.size → ¬ A a) : va_Zq "jdk/internal/util/Preconditions" "SIOOBE_FORMATTER" "Ljava/util/function/BiFunction;" A s s.heap := va_Zqof (hts (.laysStatic "jdk/internal/util/Preconditions" "SIOOBE_FORMATTER" "Ljava/util/function/BiFunction;") (by decide +kernel)) (hts (.initialized "jdk/internal/util/Preconditions") (by decide +kernel)) (gv_w hg.1 217 (by decide +kernel)) hA
set_option maxRecDepth 100000 in
set_option maxHeartbeats 4000000 in
theorem st_lit {args : Array Value} {s : State} {A : Nat → Prop} {C : Cond} (hg : C.before args s = true) (hA : ∀ a : Nat, a < s.heap.size → ¬ A a) {own : String} {k n : Nat} {bs : List Int32} (e : Nat) (h0 : (flatC C)[e]? = some (.exactly (.string own k) "java/lang/String")) (h1 : (flatC C)[e + 1]? = some (.eq (.field (.string own k) "java/lang/String" "coder" "B") (.int 0))) (h2 : (flatC C)[e + 2]? = some (.arrayOf (.field (.string own k) "java/lang/String" "value" "[B") .byte)) (h3 : (flatC C)[e + 3]? = some (.eq (.length (.field (.string own k) "java/lang/String" "value" "[B")) (.int (Int32.ofNat n)))) (h4 : ∀ j, j < n → (flatC C)[e + 4 + j]? = some (.eq (.elem (.field (.string own k) "java/lang/String" "value" "[B") (.int (Int32.ofNat j))) (.int (bs.getD j 0)))) (hn : n < 2 ^ 31) : ∃ q : Nat × Nat, (Term.string own k).eval args s none [] s = some (.ref q.1) ∧ strI n bs q.1 q.2 A s s.heap := by
  obtain ⟨a, c, cA, kA, q1, q2, q3, q4, q5, q6, -⟩ := Cond.exactly_spec (args := args) (first := s) (o := none) (s := s) (idx := []) (t := .string own k) (cls := "java/lang/String") (gv_w hg e h0)
  obtain ⟨t, ht, hT⟩ := va_Tof (f := fun j => .int (bs.getD j 0)) (A := A) hn (gv_w hg (e + 2) h2) (va_eqt (gv_w hg (e + 3) h3)) (fun j hj => va_eqt (gv_w hg (e + 4 + j) (h4 j hj))) hA
  exact ⟨(a, t), q1, ⟨cA, q3, q5, by rw [q6]; exact q2, hA a (Array.getElem?_eq_some_iff.mp q3).1⟩, vk_OFof q1 (va_eqt (gv_w hg (e + 1) h1)) hA, vk_OFof q1 ht hA, hT⟩
set_option maxRecDepth 100000 in
set_option maxHeartbeats 4000000 in
theorem st_l0 {args : Array Value} {s : State} {A : Nat → Prop} (hg : GVs args s) (hA : ∀ a : Nat, a < s.heap.size → ¬ A a) : ∃ q : Nat × Nat, (Term.string (sIx 0).1 (sIx 0).2.1).eval args s none [] s = some (.ref q.1) ∧ strI (lenS.getD 0 0) (bytS.getD 0 []) q.1 q.2 A s s.heap := st_lit (C := narrow_1_3) hg.2.2.1 hA (own := "BathLeague$Script") (k := 53) (n := 4) (bs := [98, 97, 116, 104]) 360 (by decide +kernel) (by decide +kernel) (by decide +kernel) (by decide +kernel) (by decide +kernel) (by decide)
set_option maxRecDepth 100000 in
set_option maxHeartbeats 4000000 in
theorem st_l1 {args : Array Value} {s : State} {A : Nat → Prop} (hg : GVs args s) (hA : ∀ a : Nat, a < s.heap.size → ¬ A a) : ∃ q : Nat × Nat, (Term.string (sIx 1).1 (sIx 1).2.1).eval args s none [] s = some (.ref q.1) ∧ strI (lenS.getD 1 0) (bytS.getD 1 []) q.1 q.2 A s s.heap := st_lit (C := narrow_1_4) hg.2.2.2 hA (own := "BathLeague$Script") (k := 72) (n := 5) (bs := [106, 111, 105, 110, 32]) 7 (by decide +kernel) (by decide +kernel) (by decide +kernel) (by decide +kernel) (by decide +kernel) (by decide)
set_option maxRecDepth 100000 in
set_option maxHeartbeats 4000000 in
theorem st_l2 {args : Array Value} {s : State} {A : Nat → Prop} (hg : GVs args s) (hA : ∀ a : Nat, a < s.heap.size → ¬ A a) : ∃ q : Nat × Nat, (Term.string (sIx 2).1 (sIx 2).2.1).eval args s none [] s = some (.ref q.1) ∧ strI (lenS.getD 2 0) (bytS.getD 2 []) q.1 q.2 A s s.heap := st_lit (C := narrow_1_4) hg.2.2.2 hA (own := "BathLeague$Script") (k := 78) (n := 6) (bs := [108, 101, 97, 118, 101, 32]) 16 (by decide +kernel) (by decide +kernel) (by decide +kernel) (by decide +kernel) (by decide +kernel) (by decide)
set_option maxRecDepth 100000 in
set_option maxHeartbeats 4000000 in
theorem st_l3 {args : Array Value} {s : State} {A : Nat → Prop} (hg : GVs args s) (hA : ∀ a : Nat, a < s.heap.size → ¬ A a) : ∃ q : Nat × Nat, (Term.string (sIx 3).1 (sIx 3).2.1).eval args s none [] s = some (.ref q.1) ∧ strI (lenS.getD 3 0) (bytS.getD 3 []) q.1 q.2 A s s.heap := st_lit (C := narrow_1_3) hg.2.2.1 hA (own := "BathLeague$Script") (k := 80) (n := 3) (bs := [97, 112, 32]) 368 (by decide +kernel) (by decide +kernel) (by decide +kernel) (by decide +kernel) (by decide +kernel) (by decide)
set_option maxRecDepth 100000 in
set_option maxHeartbeats 4000000 in
theorem st_l4 {args : Array Value} {s : State} {A : Nat → Prop} (hg : GVs args s) (hA : ∀ a : Nat, a < s.heap.size → ¬ A a) : ∃ q : Nat × Nat, (Term.string (sIx 4).1 (sIx 4).2.1).eval args s none [] s = some (.ref q.1) ∧ strI (lenS.getD 4 0) (bytS.getD 4 []) q.1 q.2 A s s.heap := st_lit (C := narrow_1_3) hg.2.2.1 hA (own := "BathLeague$Script") (k := 88) (n := 3) (bs := [105, 99, 107]) 375 (by decide +kernel) (by decide +kernel) (by decide +kernel) (by decide +kernel) (by decide +kernel) (by decide)
set_option maxRecDepth 100000 in
set_option maxHeartbeats 4000000 in
theorem st_l5 {args : Array Value} {s : State} {A : Nat → Prop} (hg : GVs args s) (hA : ∀ a : Nat, a < s.heap.size → ¬ A a) : ∃ q : Nat × Nat, (Term.string (sIx 5).1 (sIx 5).2.1).eval args s none [] s = some (.ref q.1) ∧ strI (lenS.getD 5 0) (bytS.getD 5 []) q.1 q.2 A s s.heap := st_lit (C := narrow_1_3) hg.2.2.1 hA (own := "BathLeague$Script") (k := 90) (n := 4) (bs := [108, 117, 103, 32]) 382 (by decide +kernel) (by decide +kernel) (by decide +kernel) (by decide +kernel) (by decide +kernel) (by decide)
set_option maxRecDepth 100000 in
set_option maxHeartbeats 4000000 in
theorem st_l6 {args : Array Value} {s : State} {A : Nat → Prop} (hg : GVs args s) (hA : ∀ a : Nat, a < s.heap.size → ¬ A a) : ∃ q : Nat × Nat, (Term.string (sIx 6).1 (sIx 6).2.1).eval args s none [] s = some (.ref q.1) ∧ strI (lenS.getD 6 0) (bytS.getD 6 []) q.1 q.2 A s s.heap := st_lit (C := narrow_1_3) hg.2.2.1 hA (own := "BathLeague$Script") (k := 95) (n := 4) (bs := [111, 117, 114, 32]) 390 (by decide +kernel) (by decide +kernel) (by decide +kernel) (by decide +kernel) (by decide +kernel) (by decide)
set_option maxRecDepth 100000 in
set_option maxHeartbeats 4000000 in
theorem st_l7 {args : Array Value} {s : State} {A : Nat → Prop} (hg : GVs args s) (hA : ∀ a : Nat, a < s.heap.size → ¬ A a) : ∃ q : Nat × Nat, (Term.string (sIx 7).1 (sIx 7).2.1).eval args s none [] s = some (.ref q.1) ∧ strI (lenS.getD 7 0) (bytS.getD 7 []) q.1 q.2 A s s.heap := st_lit (C := (Jvm.Cond.and narrow_1_3 narrow_1_4)) (show (Jvm.Cond.and narrow_1_3 narrow_1_4).before args s = true by rw [Cond.before_and, hg.2.2.1, hg.2.2.2]; rfl) hA (own := "BathLeague$Script") (k := 97) (n := 5) (bs := [100, 117, 99, 107, 32]) 398 (by decide +kernel) (by decide +kernel) (by decide +kernel) (by decide +kernel) (by decide +kernel) (by decide)
set_option maxRecDepth 100000 in
set_option maxHeartbeats 4000000 in
theorem st_l8 {args : Array Value} {s : State} {A : Nat → Prop} (hg : GVs args s) (hA : ∀ a : Nat, a < s.heap.size → ¬ A a) : ∃ q : Nat × Nat, (Term.string (sIx 8).1 (sIx 8).2.1).eval args s none [] s = some (.ref q.1) ∧ strI (lenS.getD 8 0) (bytS.getD 8 []) q.1 q.2 A s s.heap := st_lit (C := narrow_1_3) hg.2.2.1 hA (own := "BathLeagueLaw") (k := 330) (n := 1) (bs := [58]) 22 (by decide +kernel) (by decide +kernel) (by decide +kernel) (by decide +kernel) (by decide +kernel) (by decide)
set_option maxRecDepth 100000 in
set_option maxHeartbeats 4000000 in
theorem st_l9 {args : Array Value} {s : State} {A : Nat → Prop} (hg : GVs args s) (hA : ∀ a : Nat, a < s.heap.size → ¬ A a) : ∃ q : Nat × Nat, (Term.string (sIx 9).1 (sIx 9).2.1).eval args s none [] s = some (.ref q.1) ∧ strI (lenS.getD 9 0) (bytS.getD 9 []) q.1 q.2 A s s.heap := st_lit (C := narrow_1_3) hg.2.2.1 hA (own := "BathLeagueLaw") (k := 335) (n := 1) (bs := [108]) 27 (by decide +kernel) (by decide +kernel) (by decide +kernel) (by decide +kernel) (by decide +kernel) (by decide)
set_option maxRecDepth 100000 in
set_option maxHeartbeats 4000000 in
theorem st_l10 {args : Array Value} {s : State} {A : Nat → Prop} (hg : GVs args s) (hA : ∀ a : Nat, a < s.heap.size → ¬ A a) : ∃ q : Nat × Nat, (Term.string (sIx 10).1 (sIx 10).2.1).eval args s none [] s = some (.ref q.1) ∧ strI (lenS.getD 10 0) (bytS.getD 10 []) q.1 q.2 A s s.heap := st_lit (C := narrow_1_3) hg.2.2.1 hA (own := "BathLeagueLaw") (k := 337) (n := 1) (bs := [67]) 32 (by decide +kernel) (by decide +kernel) (by decide +kernel) (by decide +kernel) (by decide +kernel) (by decide)
set_option maxRecDepth 100000 in
set_option maxHeartbeats 4000000 in
theorem st_l11 {args : Array Value} {s : State} {A : Nat → Prop} (hg : GVs args s) (hA : ∀ a : Nat, a < s.heap.size → ¬ A a) : ∃ q : Nat × Nat, (Term.string (sIx 11).1 (sIx 11).2.1).eval args s none [] s = some (.ref q.1) ∧ strI (lenS.getD 11 0) (bytS.getD 11 []) q.1 q.2 A s s.heap := st_lit (C := narrow_1_3) hg.2.2.1 hA (own := "BathLeagueLaw") (k := 343) (n := 0) (bs := []) 44 (by decide +kernel) (by decide +kernel) (by decide +kernel) (by decide +kernel) (by decide +kernel) (by decide)
set_option maxRecDepth 100000 in
set_option maxHeartbeats 4000000 in
theorem st_l12 {args : Array Value} {s : State} {A : Nat → Prop} (hg : GVs args s) (hA : ∀ a : Nat, a < s.heap.size → ¬ A a) : ∃ q : Nat × Nat, (Term.string (sIx 12).1 (sIx 12).2.1).eval args s none [] s = some (.ref q.1) ∧ strI (lenS.getD 12 0) (bytS.getD 12 []) q.1 q.2 A s s.heap := st_lit (C := narrow_1_3) hg.2.2.1 hA (own := "BathLeagueLaw") (k := 345) (n := 1) (bs := [43]) 48 (by decide +kernel) (by decide +kernel) (by decide +kernel) (by decide +kernel) (by decide +kernel) (by decide)
set_option maxRecDepth 100000 in
set_option maxHeartbeats 4000000 in
theorem st_l13 {args : Array Value} {s : State} {A : Nat → Prop} (hg : GVs args s) (hA : ∀ a : Nat, a < s.heap.size → ¬ A a) : ∃ q : Nat × Nat, (Term.string (sIx 13).1 (sIx 13).2.1).eval args s none [] s = some (.ref q.1) ∧ strI (lenS.getD 13 0) (bytS.getD 13 []) q.1 q.2 A s s.heap := st_lit (C := narrow_1_3) hg.2.2.1 hA (own := "BathLeagueLaw") (k := 347) (n := 1) (bs := [45]) 53 (by decide +kernel) (by decide +kernel) (by decide +kernel) (by decide +kernel) (by decide +kernel) (by decide)
set_option maxRecDepth 100000 in
set_option maxHeartbeats 4000000 in
theorem st_l14 {args : Array Value} {s : State} {A : Nat → Prop} (hg : GVs args s) (hA : ∀ a : Nat, a < s.heap.size → ¬ A a) : ∃ q : Nat × Nat, (Term.string (sIx 14).1 (sIx 14).2.1).eval args s none [] s = some (.ref q.1) ∧ strI (lenS.getD 14 0) (bytS.getD 14 []) q.1 q.2 A s s.heap := st_lit (C := narrow_1_3) hg.2.2.1 hA (own := "BathLeagueLaw") (k := 349) (n := 1) (bs := [42]) 58 (by decide +kernel) (by decide +kernel) (by decide +kernel) (by decide +kernel) (by decide +kernel) (by decide)
set_option maxRecDepth 100000 in
set_option maxHeartbeats 4000000 in
theorem st_l15 {args : Array Value} {s : State} {A : Nat → Prop} (hg : GVs args s) (hA : ∀ a : Nat, a < s.heap.size → ¬ A a) : ∃ q : Nat × Nat, (Term.string (sIx 15).1 (sIx 15).2.1).eval args s none [] s = some (.ref q.1) ∧ strI (lenS.getD 15 0) (bytS.getD 15 []) q.1 q.2 A s s.heap := st_lit (C := narrow_1_3) hg.2.2.1 hA (own := "BathLeagueLaw") (k := 362) (n := 5) (bs := [116, 112, 106, 108, 100]) 196 (by decide +kernel) (by decide +kernel) (by decide +kernel) (by decide +kernel) (by decide +kernel) (by decide)
set_option maxRecDepth 100000 in
set_option maxHeartbeats 4000000 in
theorem st_l16 {args : Array Value} {s : State} {A : Nat → Prop} (hg : GVs args s) (hA : ∀ a : Nat, a < s.heap.size → ¬ A a) : ∃ q : Nat × Nat, (Term.string (sIx 16).1 (sIx 16).2.1).eval args s none [] s = some (.ref q.1) ∧ strI (lenS.getD 16 0) (bytS.getD 16 []) q.1 q.2 A s s.heap := st_lit (C := narrow_1_3) hg.2.2.1 hA (own := "BathLeagueLaw") (k := 407) (n := 5) (bs := [116, 105, 99, 107, 32]) 249 (by decide +kernel) (by decide +kernel) (by decide +kernel) (by decide +kernel) (by decide +kernel) (by decide)
set_option maxRecDepth 100000 in
set_option maxHeartbeats 4000000 in
theorem st_l17 {args : Array Value} {s : State} {A : Nat → Prop} (hg : GVs args s) (hA : ∀ a : Nat, a < s.heap.size → ¬ A a) : ∃ q : Nat × Nat, (Term.string (sIx 17).1 (sIx 17).2.1).eval args s none [] s = some (.ref q.1) ∧ strI (lenS.getD 17 0) (bytS.getD 17 []) q.1 q.2 A s s.heap := st_lit (C := narrow_1_3) hg.2.2.1 hA (own := "BathLeagueLaw") (k := 409) (n := 5) (bs := [59, 116, 97, 112, 32]) 258 (by decide +kernel) (by decide +kernel) (by decide +kernel) (by decide +kernel) (by decide +kernel) (by decide)
set_option maxRecDepth 100000 in
set_option maxHeartbeats 4000000 in
theorem st_l18 {args : Array Value} {s : State} {A : Nat → Prop} (hg : GVs args s) (hA : ∀ a : Nat, a < s.heap.size → ¬ A a) : ∃ q : Nat × Nat, (Term.string (sIx 18).1 (sIx 18).2.1).eval args s none [] s = some (.ref q.1) ∧ strI (lenS.getD 18 0) (bytS.getD 18 []) q.1 q.2 A s s.heap := st_lit (C := narrow_1_3) hg.2.2.1 hA (own := "BathLeagueLaw") (k := 411) (n := 3) (bs := [32, 104, 32]) 267 (by decide +kernel) (by decide +kernel) (by decide +kernel) (by decide +kernel) (by decide +kernel) (by decide)
set_option maxRecDepth 100000 in
set_option maxHeartbeats 4000000 in
theorem st_l19 {args : Array Value} {s : State} {A : Nat → Prop} (hg : GVs args s) (hA : ∀ a : Nat, a < s.heap.size → ¬ A a) : ∃ q : Nat × Nat, (Term.string (sIx 19).1 (sIx 19).2.1).eval args s none [] s = some (.ref q.1) ∧ strI (lenS.getD 19 0) (bytS.getD 19 []) q.1 q.2 A s s.heap := st_lit (C := narrow_1_3) hg.2.2.1 hA (own := "BathLeagueLaw") (k := 413) (n := 5) (bs := [59, 116, 105, 99, 107]) 274 (by decide +kernel) (by decide +kernel) (by decide +kernel) (by decide +kernel) (by decide +kernel) (by decide)
set_option maxRecDepth 100000 in
set_option maxHeartbeats 4000000 in
theorem st_ref : ∀ i, i < 20 → Cond.stringRef (sIx i).1 (sIx i).2.1 (sIx i).2.2 ∈ lw_tbl := by decide +kernel
set_option maxRecDepth 100000 in
set_option maxHeartbeats 4000000 in
theorem st_SK {args : Array Value} {s : State} {A : Nat → Prop} (hts : ∀ w ∈ lw_tbl, w.before args s = true) (hg : GVs args s) (hA : ∀ a : Nat, a < s.heap.size → ¬ A a) : ∃ kS vS : Nat → Nat, SK kS vS A s := by
  have h0 : ∀ i : Nat, ∃ q : Nat × Nat, i < 20 → (Term.string (sIx i).1 (sIx i).2.1).eval args s none [] s = some (.ref q.1) ∧ strI (lenS.getD i 0) (bytS.getD i []) q.1 q.2 A s s.heap := by
    intro i
    by_cases hi : i < 20
    · have g : 0 ≤ i := Nat.zero_le i
      rcases Nat.eq_or_lt_of_le g with e9 | g
      · subst e9
        obtain ⟨q, hq⟩ := st_l0 hg hA
        exact ⟨q, fun _ => hq⟩
      have g : 1 ≤ i := g
      rcases Nat.eq_or_lt_of_le g with e9 | g
      · subst e9
        obtain ⟨q, hq⟩ := st_l1 hg hA
        exact ⟨q, fun _ => hq⟩
      have g : 2 ≤ i := g
      rcases Nat.eq_or_lt_of_le g with e9 | g
      · subst e9
        obtain ⟨q, hq⟩ := st_l2 hg hA
        exact ⟨q, fun _ => hq⟩
      have g : 3 ≤ i := g
      rcases Nat.eq_or_lt_of_le g with e9 | g
      · subst e9
        obtain ⟨q, hq⟩ := st_l3 hg hA
        exact ⟨q, fun _ => hq⟩
      have g : 4 ≤ i := g
      rcases Nat.eq_or_lt_of_le g with e9 | g
      · subst e9
        obtain ⟨q, hq⟩ := st_l4 hg hA
        exact ⟨q, fun _ => hq⟩
      have g : 5 ≤ i := g
      rcases Nat.eq_or_lt_of_le g with e9 | g
      · subst e9
        obtain ⟨q, hq⟩ := st_l5 hg hA
        exact ⟨q, fun _ => hq⟩
      have g : 6 ≤ i := g
      rcases Nat.eq_or_lt_of_le g with e9 | g
      · subst e9
        obtain ⟨q, hq⟩ := st_l6 hg hA
        exact ⟨q, fun _ => hq⟩
      have g : 7 ≤ i := g
      rcases Nat.eq_or_lt_of_le g with e9 | g
      · subst e9
        obtain ⟨q, hq⟩ := st_l7 hg hA
        exact ⟨q, fun _ => hq⟩
      have g : 8 ≤ i := g
      rcases Nat.eq_or_lt_of_le g with e9 | g
      · subst e9
        obtain ⟨q, hq⟩ := st_l8 hg hA
        exact ⟨q, fun _ => hq⟩
      have g : 9 ≤ i := g
      rcases Nat.eq_or_lt_of_le g with e9 | g
      · subst e9
        obtain ⟨q, hq⟩ := st_l9 hg hA
        exact ⟨q, fun _ => hq⟩
      have g : 10 ≤ i := g
      rcases Nat.eq_or_lt_of_le g with e9 | g
      · subst e9
        obtain ⟨q, hq⟩ := st_l10 hg hA
        exact ⟨q, fun _ => hq⟩
      have g : 11 ≤ i := g
      rcases Nat.eq_or_lt_of_le g with e9 | g
      · subst e9
        obtain ⟨q, hq⟩ := st_l11 hg hA
        exact ⟨q, fun _ => hq⟩
      have g : 12 ≤ i := g
      rcases Nat.eq_or_lt_of_le g with e9 | g
      · subst e9
        obtain ⟨q, hq⟩ := st_l12 hg hA
        exact ⟨q, fun _ => hq⟩
      have g : 13 ≤ i := g
      rcases Nat.eq_or_lt_of_le g with e9 | g
      · subst e9
        obtain ⟨q, hq⟩ := st_l13 hg hA
        exact ⟨q, fun _ => hq⟩
      have g : 14 ≤ i := g
      rcases Nat.eq_or_lt_of_le g with e9 | g
      · subst e9
        obtain ⟨q, hq⟩ := st_l14 hg hA
        exact ⟨q, fun _ => hq⟩
      have g : 15 ≤ i := g
      rcases Nat.eq_or_lt_of_le g with e9 | g
      · subst e9
        obtain ⟨q, hq⟩ := st_l15 hg hA
        exact ⟨q, fun _ => hq⟩
      have g : 16 ≤ i := g
      rcases Nat.eq_or_lt_of_le g with e9 | g
      · subst e9
        obtain ⟨q, hq⟩ := st_l16 hg hA
        exact ⟨q, fun _ => hq⟩
      have g : 17 ≤ i := g
      rcases Nat.eq_or_lt_of_le g with e9 | g
      · subst e9
        obtain ⟨q, hq⟩ := st_l17 hg hA
        exact ⟨q, fun _ => hq⟩
      have g : 18 ≤ i := g
      rcases Nat.eq_or_lt_of_le g with e9 | g
      · subst e9
        obtain ⟨q, hq⟩ := st_l18 hg hA
        exact ⟨q, fun _ => hq⟩
      have g : 19 ≤ i := g
      rcases Nat.eq_or_lt_of_le g with e9 | g
      · subst e9
        obtain ⟨q, hq⟩ := st_l19 hg hA
        exact ⟨q, fun _ => hq⟩
      have g : 20 ≤ i := g
      omega
    · exact ⟨(0, 0), fun h => absurd h hi⟩
  obtain ⟨ad, had⟩ := Classical.axiomOfChoice h0
  refine ⟨fun i => (ad i).1, fun i => (ad i).2, ⟨fun i hi => (had i hi).2, trivial⟩, fun i hi => ?_, st_cmp hts hg hA, st_fmt hts hg hA⟩
  have e1 : (Term.string (sIx i).1 (sIx i).2.1).eval #[] s none [] s = some (.ref (ad i).1) := (had i hi).1
  exact vk_R.of (hts _ (st_ref i hi)) e1
set_option maxRecDepth 100000 in
set_option maxHeartbeats 4000000 in
theorem st_xs0 : ∀ w ∈ castW, w ∈ lw_tbl := by decide +kernel
set_option maxRecDepth 100000 in
set_option maxHeartbeats 4000000 in
theorem st_xs1 : ∀ q ∈ strX, Cond.stringRef RX7 q.1 q.2 ∈ lw_tbl := by decide +kernel
set_option maxRecDepth 100000 in
set_option maxHeartbeats 4000000 in
theorem st_xs2 {args : Array Value} {s : State} (hg : GVs args s) : ∀ q ∈ strX, (Cond.exactly (.string RX7 q.1) "java/lang/String").before args s = true := by
  simp only [strX, List.forall_mem_cons, List.not_mem_nil, false_implies, implies_true, and_true]
  refine ⟨gv_w hg.2.1 215 (by decide +kernel), gv_w hg.2.1 238 (by decide +kernel), gv_w hg.2.1 320 (by decide +kernel), gv_w hg.2.1 348 (by decide +kernel), gv_w hg.2.1 273 (by decide +kernel), gv_w hg.2.2.1 205 (by decide +kernel), gv_w hg.2.2.1 0 (by decide +kernel), gv_w hg.2.2.1 159 (by decide +kernel), gv_w hg.2.2.1 283 (by decide +kernel), gv_w hg.2.2.1 331 (by decide +kernel), gv_w hg.2.2.2 26 (by decide +kernel), gv_w hg.2.2.2 72 (by decide +kernel), gv_w hg.2.2.2 92 (by decide +kernel), gv_w hg.1 304 (by decide +kernel), gv_w hg.1 329 (by decide +kernel), gv_w hg.1 364 (by decide +kernel), gv_w hg.1 397 (by decide +kernel), gv_w hg.2.1 26 (by decide +kernel), gv_w hg.2.1 58 (by decide +kernel), gv_w hg.2.1 375 (by decide +kernel), gv_w hg.2.1 179 (by decide +kernel), gv_w hg.2.1 83 (by decide +kernel), gv_w hg.2.1 146 (by decide +kernel)⟩
set_option maxRecDepth 100000 in
set_option maxHeartbeats 4000000 in
theorem st_xs3 {args : Array Value} {s : State} (hg : GVs args s) : ∀ q ∈ ncX, (Cond.not (.castable q.1 q.2)).before args s = true := by
  simp only [ncX, List.forall_mem_cons, List.not_mem_nil, false_implies, implies_true, and_true]
  refine ⟨gv_w hg.1 262 (by decide +kernel), gv_w hg.1 230 (by decide +kernel), gv_w hg.1 296 (by decide +kernel), gv_w hg.1 279 (by decide +kernel), gv_w hg.1 247 (by decide +kernel), gv_w hg.1 231 (by decide +kernel), gv_w hg.1 297 (by decide +kernel), gv_w hg.1 280 (by decide +kernel), gv_w hg.1 248 (by decide +kernel), gv_w hg.1 263 (by decide +kernel), gv_w hg.1 298 (by decide +kernel), gv_w hg.1 281 (by decide +kernel), gv_w hg.1 249 (by decide +kernel), gv_w hg.1 264 (by decide +kernel), gv_w hg.1 232 (by decide +kernel), gv_w hg.1 282 (by decide +kernel), gv_w hg.1 250 (by decide +kernel), gv_w hg.1 265 (by decide +kernel), gv_w hg.1 233 (by decide +kernel), gv_w hg.1 299 (by decide +kernel), gv_w hg.1 251 (by decide +kernel), gv_w hg.1 267 (by decide +kernel), gv_w hg.1 235 (by decide +kernel), gv_w hg.1 301 (by decide +kernel), gv_w hg.1 284 (by decide +kernel)⟩
set_option maxRecDepth 100000 in
set_option maxHeartbeats 4000000 in
theorem st_XS {args : Array Value} {s : State} {A : Nat → Prop} (hts : ∀ w ∈ lw_tbl, w.before args s = true) (hg : GVs args s) (hA : ∀ a : Nat, a < s.heap.size → ¬ A a) : XS A s := by
  refine ⟨vx_Zqof (hts (.laysStatic Bundle.tN "UNASSIGNED_STACK" Bundle.steD) (by decide +kernel)) (hts (.initialized Bundle.tN) (by decide +kernel)) (gv_w hg.1 3 (by decide +kernel)) hA, vx_Zqof (hts (.laysStatic Bundle.tN "SUPPRESSED_SENTINEL" Bundle.listD) (by decide +kernel)) (hts (.initialized Bundle.tN) (by decide +kernel)) (gv_w hg.1 4 (by decide +kernel)) hA, fun w hw => va_Nw.of (castW_tab w hw) (hts w (st_xs0 w hw)), fun q hq => ?_, fun q hq => va_Nc.of (st_xs3 hg q hq)⟩
  obtain ⟨a, c, cA, kA, q1, -⟩ := Cond.exactly_spec (args := args) (first := s) (o := none) (s := s) (idx := []) (t := .string RX7 q.1) (cls := "java/lang/String") (st_xs2 hg q hq)
  have e1 : (Term.string RX7 q.1).eval #[] s none [] s = some (.ref a) := q1
  exact ⟨a, vk_R.of (hts _ (st_xs1 q hq)) e1⟩
theorem st_DZ {args : Array Value} {s : State} {A : Nat → Prop} (hts : ∀ w ∈ lw_tbl, w.before args s = true) (hg : GVs args s) (hA : ∀ a : Nat, a < s.heap.size → ¬ A a) : DZ A s := ⟨st_one hts hg hA, st_ten hts hg hA⟩
theorem st_TZ {args : Array Value} {s : State} {A : Nat → Prop} (hts : ∀ w ∈ lw_tbl, w.before args s = true) (hg : GVs args s) (hA : ∀ a : Nat, a < s.heap.size → ¬ A a) : TZ A s := st_tap hts hg hA
theorem st_arr {ty : FieldType} {args : Array Value} {s : State} (h : (Cond.arrayClass ty).before args s = true) (hn : ∀ C, ty ≠ .object C) : ∃ c : ClassId, ArrOfT s c ty ∧ va_RA s c ty := by
  obtain ⟨c, k, comp, h1, h2, h3⟩ := Cond.arrayClass_spec h
  refine ⟨c, fun n z => ⟨fun k h => (by cases h), k, h2, comp, h3⟩, ?_⟩
  cases ty with
  | object C => exact absurd rfl (hn C)
  | _ => exact h1
theorem st_arrO {C : String} {args : Array Value} {s : State} (h : (Cond.arrayOver (.object C)).before args s = true) : ∃ c : ClassId, ArrOfT s c (.object C) ∧ va_RA s c (.object C) := by
  obtain ⟨comp, c, k, h1, h2, h3, h4, h5⟩ := Cond.arrayOver_spec h
  exact ⟨c, fun n z => ⟨fun k h => (by cases h), k, h3, comp, h4⟩, k, comp, h3, h4, h1, h5⟩
theorem st_arrA {t : FieldType} {args : Array Value} {s : State} (h : (Cond.arrayOver (.array t)).before args s = true) : ∃ c : ClassId, ArrOfT s c (.array t) ∧ va_RA s c (.array t) := by
  obtain ⟨comp, c, k, h1, h2, h3, h4⟩ := Cond.arrayOver_specA h
  exact ⟨c, fun n z => ⟨fun k h => (by cases h), k, h2, comp, h3⟩, h4⟩
set_option maxRecDepth 100000 in
set_option maxHeartbeats 4000000 in
theorem st_c0 {args : Array Value} {s : State} (hts : ∀ w ∈ lw_tbl, w.before args s = true) : ∃ (cC : ClassId) (iS : Nat → Nat), u_Kn s RJ0 TJ0 4 cC iS := u_known (n := 4) hts (show ∀ w ∈ u_ws RJ0 TJ0 4, w ∈ lw_tbl from (by decide +kernel)) (hts (.instantiable RJ0 4) (by decide +kernel))
set_option maxRecDepth 100000 in
set_option maxHeartbeats 4000000 in
theorem st_c1 {args : Array Value} {s : State} (hts : ∀ w ∈ lw_tbl, w.before args s = true) : ∃ (cC : ClassId) (iS : Nat → Nat), u_Kn s RJ4 TJ4 4 cC iS := u_known (n := 4) hts (show ∀ w ∈ u_ws RJ4 TJ4 4, w ∈ lw_tbl from (by decide +kernel)) (hts (.instantiable RJ4 4) (by decide +kernel))
set_option maxRecDepth 100000 in
set_option maxHeartbeats 4000000 in
theorem st_c2 {args : Array Value} {s : State} (hts : ∀ w ∈ lw_tbl, w.before args s = true) : ∃ (cC : ClassId) (iS : Nat → Nat), u_Kn s RJx00060 TJx00060 6 cC iS := u_known (n := 6) hts (show ∀ w ∈ u_ws RJx00060 TJx00060 6, w ∈ lw_tbl from (by decide +kernel)) (hts (.instantiable RJx00060 6) (by decide +kernel))
set_option maxRecDepth 100000 in
set_option maxHeartbeats 4000000 in
theorem st_c3 {args : Array Value} {s : State} (hts : ∀ w ∈ lw_tbl, w.before args s = true) : ∃ (cC : ClassId) (iS : Nat → Nat), u_Kn s RJx7c733 TJx7c733 6 cC iS := u_known (n := 6) hts (show ∀ w ∈ u_ws RJx7c733 TJx7c733 6, w ∈ lw_tbl from (by decide +kernel)) (hts (.instantiable RJx7c733 6) (by decide +kernel))
set_option maxRecDepth 100000 in
set_option maxHeartbeats 4000000 in
theorem st_c4 {args : Array Value} {s : State} (hts : ∀ w ∈ lw_tbl, w.before args s = true) : ∃ (cC : ClassId) (iS : Nat → Nat), u_Kn s RX0 TX0 5 cC iS := u_known (n := 5) hts (show ∀ w ∈ u_ws RX0 TX0 5, w ∈ lw_tbl from (by decide +kernel)) (hts (.instantiable RX0 5) (by decide +kernel))
set_option maxRecDepth 100000 in
set_option maxHeartbeats 4000000 in
theorem st_c5 {args : Array Value} {s : State} (hts : ∀ w ∈ lw_tbl, w.before args s = true) : ∃ (cC : ClassId) (iS : Nat → Nat), u_Kn s RX1 TX1 6 cC iS := u_known (n := 6) hts (show ∀ w ∈ u_ws RX1 TX1 6, w ∈ lw_tbl from (by decide +kernel)) (hts (.instantiable RX1 6) (by decide +kernel))
set_option maxRecDepth 100000 in
set_option maxHeartbeats 4000000 in
theorem st_c6 {args : Array Value} {s : State} (hts : ∀ w ∈ lw_tbl, w.before args s = true) : ∃ (cC : ClassId) (iS : Nat → Nat), u_Kn s RX2 TX2 4 cC iS := u_known (n := 4) hts (show ∀ w ∈ u_ws RX2 TX2 4, w ∈ lw_tbl from (by decide +kernel)) (hts (.instantiable RX2 4) (by decide +kernel))
set_option maxRecDepth 100000 in
set_option maxHeartbeats 4000000 in
theorem st_c7 {args : Array Value} {s : State} (hts : ∀ w ∈ lw_tbl, w.before args s = true) : ∃ (cC : ClassId) (iS : Nat → Nat), u_Kn s RX3 TX3 3 cC iS := u_known (n := 3) hts (show ∀ w ∈ u_ws RX3 TX3 3, w ∈ lw_tbl from (by decide +kernel)) (hts (.instantiable RX3 3) (by decide +kernel))
set_option maxRecDepth 100000 in
set_option maxHeartbeats 4000000 in
theorem st_c8 {args : Array Value} {s : State} (hts : ∀ w ∈ lw_tbl, w.before args s = true) : ∃ (cC : ClassId) (iS : Nat → Nat), u_Kn s RX4 TX4 9 cC iS := u_known (n := 9) hts (show ∀ w ∈ u_ws RX4 TX4 9, w ∈ lw_tbl from (by decide +kernel)) (hts (.instantiable RX4 9) (by decide +kernel))
set_option maxRecDepth 100000 in
set_option maxHeartbeats 4000000 in
theorem st_c9 {args : Array Value} {s : State} (hts : ∀ w ∈ lw_tbl, w.before args s = true) : ∃ (cC : ClassId) (iS : Nat → Nat), u_Kn s RX5 TX5 4 cC iS := u_known (n := 4) hts (show ∀ w ∈ u_ws RX5 TX5 4, w ∈ lw_tbl from (by decide +kernel)) (hts (.instantiable RX5 4) (by decide +kernel))
set_option maxRecDepth 100000 in
set_option maxHeartbeats 4000000 in
theorem st_c10 {args : Array Value} {s : State} (hts : ∀ w ∈ lw_tbl, w.before args s = true) : ∃ (cC : ClassId) (iS : Nat → Nat), u_Kn s RX6 TX6 6 cC iS := u_known (n := 6) hts (show ∀ w ∈ u_ws RX6 TX6 6, w ∈ lw_tbl from (by decide +kernel)) (hts (.instantiable RX6 6) (by decide +kernel))
set_option maxRecDepth 100000 in
set_option maxHeartbeats 4000000 in
theorem st_c11 {args : Array Value} {s : State} (hts : ∀ w ∈ lw_tbl, w.before args s = true) : ∃ (cC : ClassId) (iS : Nat → Nat), u_Kn s RX7 TX7 9 cC iS := u_known (n := 9) hts (show ∀ w ∈ u_ws RX7 TX7 9, w ∈ lw_tbl from (by decide +kernel)) (hts (.instantiable RX7 9) (by decide +kernel))
set_option maxRecDepth 100000 in
set_option maxHeartbeats 4000000 in
theorem st_nest : ∀ w ∈ nestW, w ∈ lw_tbl := by decide +kernel
set_option maxRecDepth 100000 in
set_option maxHeartbeats 4000000 in
theorem st_KK {args : Array Value} {s : State} (hts : ∀ w ∈ lw_tbl, w.before args s = true) : ∃ (G : va_G) (cy : Nat → ClassId), KK G cy s := by
  obtain ⟨c0, i0, k0⟩ := st_c0 hts
  obtain ⟨c1, i1, k1⟩ := st_c1 hts
  obtain ⟨c2, i2, k2⟩ := st_c2 hts
  obtain ⟨c3, i3, k3⟩ := st_c3 hts
  obtain ⟨c4, i4, k4⟩ := st_c4 hts
  obtain ⟨c5, i5, k5⟩ := st_c5 hts
  obtain ⟨c6, i6, k6⟩ := st_c6 hts
  obtain ⟨c7, i7, k7⟩ := st_c7 hts
  obtain ⟨c8, i8, k8⟩ := st_c8 hts
  obtain ⟨c9, i9, k9⟩ := st_c9 hts
  obtain ⟨c10, i10, k10⟩ := st_c10 hts
  obtain ⟨c11, i11, k11⟩ := st_c11 hts
  obtain ⟨t0, a0, b0⟩ := st_arr (ty := .byte) (hts (.arrayClass .byte) (by decide +kernel)) (fun C h => by cases h)
  obtain ⟨t1, a1, b1⟩ := st_arr (ty := .char) (hts (.arrayClass .char) (by decide +kernel)) (fun C h => by cases h)
  obtain ⟨t2, a2, b2⟩ := st_arr (ty := .int) (hts (.arrayClass .int) (by decide +kernel)) (fun C h => by cases h)
  obtain ⟨t3, a3, b3⟩ := st_arr (ty := .boolean) (hts (.arrayClass .boolean) (by decide +kernel)) (fun C h => by cases h)
  obtain ⟨t4, a4, b4⟩ := st_arrO (C := "BathLeague$State") (hts (.arrayOver (.object "BathLeague$State")) (by decide +kernel))
  obtain ⟨t5, a5, b5⟩ := st_arr (ty := .long) (hts (.arrayClass .long) (by decide +kernel)) (fun C h => by cases h)
  obtain ⟨t6, a6, b6⟩ := st_arrA (t := .int) (hts (.arrayOver (.array .int)) (by decide +kernel))
  refine ⟨(fun k => [c0, c1, c2, c3, c4, c5, c6, c7, c8, c9, c10, c11].getD k c0, fun k => [i0, i1, i2, i3, i4, i5, i6, i7, i8, i9, i10, i11].getD k i0), fun k => [t0, t1, t2, t3, t4, t5, t6].getD k t0, ⟨?_, ?_⟩, fun w hw => va_Nw.of (nestW_tab w hw) (hts w (st_nest w hw))⟩
  · intro k q hq
    match k, hq with
    | 0, hq => obtain rfl : ((RJ0, TJ0, 4) : vw_C) = q := Option.some.inj hq; exact k0
    | 1, hq => obtain rfl : ((RJ4, TJ4, 4) : vw_C) = q := Option.some.inj hq; exact k1
    | 2, hq => obtain rfl : ((RJx00060, TJx00060, 6) : vw_C) = q := Option.some.inj hq; exact k2
    | 3, hq => obtain rfl : ((RJx7c733, TJx7c733, 6) : vw_C) = q := Option.some.inj hq; exact k3
    | 4, hq => obtain rfl : ((RX0, TX0, 5) : vw_C) = q := Option.some.inj hq; exact k4
    | 5, hq => obtain rfl : ((RX1, TX1, 6) : vw_C) = q := Option.some.inj hq; exact k5
    | 6, hq => obtain rfl : ((RX2, TX2, 4) : vw_C) = q := Option.some.inj hq; exact k6
    | 7, hq => obtain rfl : ((RX3, TX3, 3) : vw_C) = q := Option.some.inj hq; exact k7
    | 8, hq => obtain rfl : ((RX4, TX4, 9) : vw_C) = q := Option.some.inj hq; exact k8
    | 9, hq => obtain rfl : ((RX5, TX5, 4) : vw_C) = q := Option.some.inj hq; exact k9
    | 10, hq => obtain rfl : ((RX6, TX6, 6) : vw_C) = q := Option.some.inj hq; exact k10
    | 11, hq => obtain rfl : ((RX7, TX7, 9) : vw_C) = q := Option.some.inj hq; exact k11
    | n + 12, hq => exact absurd (show (none : Option vw_C) = some q from hq) (by simp)
  · intro k q hq
    match k, hq with
    | 0, hq => obtain rfl : ((t0, .byte) : ClassId × FieldType) = q := Option.some.inj hq; exact ⟨a0, b0⟩
    | 1, hq => obtain rfl : ((t1, .char) : ClassId × FieldType) = q := Option.some.inj hq; exact ⟨a1, b1⟩
    | 2, hq => obtain rfl : ((t2, .int) : ClassId × FieldType) = q := Option.some.inj hq; exact ⟨a2, b2⟩
    | 3, hq => obtain rfl : ((t3, .boolean) : ClassId × FieldType) = q := Option.some.inj hq; exact ⟨a3, b3⟩
    | 4, hq => obtain rfl : ((t4, .object "BathLeague$State") : ClassId × FieldType) = q := Option.some.inj hq; exact ⟨a4, b4⟩
    | 5, hq => obtain rfl : ((t5, .long) : ClassId × FieldType) = q := Option.some.inj hq; exact ⟨a5, b5⟩
    | 6, hq => obtain rfl : ((t6, .array .int) : ClassId × FieldType) = q := Option.some.inj hq; exact ⟨a6, b6⟩
    | n + 7, hq => exact absurd (show (none : Option (ClassId × FieldType)) = some q from hq) (by simp)
