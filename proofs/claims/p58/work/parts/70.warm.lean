/-! temperatures and litres: what the law counts -/
theorem cell_blind {b L : Nat} {xs : Nat → Int32} : ∀ (U : State) (g : JFrame) (mk : MethodId) (a : Array Value), (va_X b L xs U U.heap ∧ b < U.heap.size ∧ L ≤ 260) → (va_X b L xs (U.calling g mk a) (U.calling g mk a).heap ∧ b < (U.calling g mk a).heap.size ∧ L ≤ 260) := fun U g mk a h => ⟨va_X.moved (u := U) (U := U.calling g mk a) (Vm.Alike.refl U.vm) h.1, h.2⟩
theorem cell_at {b L : Nat} {xs : Nat → Int32} {A : Nat → Prop} {s : State} {H : Heap} {locs : List Loc} (hX : va_X b L xs s s.heap) (hbl : b < s.heap.size) (hbA : ¬ A b) (hL : L ≤ 260) (hS : va_S A s.heap H locs) : ∀ U : State, U.heap = H → s.WarmedH U.vm → (va_X b L xs U U.heap ∧ b < U.heap.size ∧ L ≤ 260) := by
  intro U hU hW
  rw [hU]
  exact ⟨(hX.kept (hS.2.1 b hbl hbA)).moved hW.alike, Nat.lt_of_lt_of_le hbl hS.1, hL⟩
theorem ush_ex (x s : Int32) (k : Nat) (hs : ((s.toUInt32 &&& Int32.toUInt32 31).toBitVec % 32).toNat = k) (hk : 1 ≤ k) : ∃ N, N < 2147483648 ∧ (x.toUInt32 >>> (s.toUInt32 &&& Int32.toUInt32 31)).toInt32 = nI N := by
  have hx : x = nI x.toBitVec.toNat := by
    apply Int32.toBitVec_inj.mp
    apply BitVec.eq_of_toNat_eq
    rw [pk_tn x.toBitVec.isLt]
  refine ⟨x.toBitVec.toNat / 2 ^ k, ?_, ?_⟩
  · have h1 := x.toBitVec.isLt
    have h2 : 2 ^ 1 ≤ 2 ^ k := Nat.pow_le_pow_right (by decide) hk
    have h3 : x.toBitVec.toNat / 2 ^ k ≤ x.toBitVec.toNat / 2 ^ 1 := Nat.div_le_div_left h2 (by decide)
    omega
  · have e := pk_ushrN (n := x.toBitVec.toNat) x.toBitVec.isLt s k hs
    rw [← hx] at e
    exact e
theorem rem_n {N m : Nat} (hN : N < 2147483648) (hm : 0 < m) (hm2 : m < 2147483648) : nI N - nI N / nI m * nI m = nI (N % m) := by
  have e1 : (nI N / nI m).toInt = (N : Int) / (m : Int) := ti_div (nI_toInt hN) (nI_toInt hm2) (by omega) (by omega)
  have h0 : N / m * m ≤ N := Nat.div_mul_le_self N m
  have h3 : m * (N / m) + N % m = N := Nat.div_add_mod N m
  have h4 : N % m < m := Nat.mod_lt N hm
  rw [Nat.mul_comm] at h3
  have e2 : ((N : Int) / (m : Int)) * (m : Int) = ((N / m * m : Nat) : Int) := by
    rw [Int.natCast_mul, Int.natCast_ediv]
  have e3 : (nI N / nI m * nI m).toInt = ((N / m * m : Nat) : Int) := by
    rw [← e2]
    exact ti_mul e1 (nI_toInt hm2) (by rw [e2]; omega) (by rw [e2]; omega)
  apply Int32.toInt_inj.mp
  rw [ti_sub (nI_toInt hN) e3 (by omega) (by omega), nI_toInt (by omega)]
  omega
theorem inR_n {n lo hi : Nat} (h1 : lo ≤ n) (h2 : n ≤ hi) (h3 : hi < 1000) : inR (nI n) (nI lo) (nI hi) = true := by
  rw [inR_iff]
  exact ⟨fun z => absurd ((nI_ltI (by omega) (by omega)).mp z) (by omega), fun z => absurd ((nI_ltI (by omega) (by omega)).mp z) (by omega)⟩
theorem dry_le {v : Nat → Int32} {k : Nat} (w : ¬ wet v k = true) : v k ≤ 0 := Classical.byContradiction fun z => w (decide_eq_true z)
theorem dry_0 {v h : Nat → Int32} (H : WtA v h) {k : Nat} (hk : k < 5) (w : ¬ wet v k = true) : v k = 0 ∧ h k = 0 := by
  obtain ⟨a, b, c, d⟩ := H k hk
  have z := dry_le w
  rw [Int32.le_iff_toInt_le, Int32.toInt_zero] at z
  exact ⟨Int32.toInt_inj.mp (by rw [Int32.toInt_zero]; omega), Int32.toInt_inj.mp (by rw [Int32.toInt_zero]; omega)⟩
theorem rdeg_pos {h v : Int32} (q : ¬ v ≤ 0) : rdeg h v = h / v := if_neg q
/-- from above to 0: the least of the fitting ones is kept -/
def fdD (f : Nat → Int32) (z : Int32) (M : Nat) : Nat → Int32
  | 0 => z
  | i + 1 => if f (M - (i + 1)) = 1 then nI (M - (i + 1)) else fdD f z M i
theorem fdD_at {f : Nat → Int32} {z : Int32} {M : Nat} (hM : M < 1000) : ∀ i, i ≤ M → fdD f z M i = (if atF f 1 (M - i) i = -1 then z else atF f 1 (M - i) i)
  | 0, _ => rfl
  | i + 1, h => by
    have e := fdD_at (f := f) (z := z) hM i (by omega)
    show (if f (M - (i + 1)) = 1 then nI (M - (i + 1)) else fdD f z M i) = (if (if f (M - (i + 1)) = 1 then nI (M - (i + 1)) else atF f 1 (M - (i + 1) + 1) i) = -1 then z else (if f (M - (i + 1)) = 1 then nI (M - (i + 1)) else atF f 1 (M - (i + 1) + 1) i))
    by_cases q : f (M - (i + 1)) = 1
    · rw [if_pos q, if_pos q, if_neg (m_nIne (by omega))]
    · rw [if_neg q, if_neg q, show M - (i + 1) + 1 = M - i from by omega]
      exact e
theorem fdD_end {f : Nat → Int32} {z : Int32} {M : Nat} (hM : M < 1000) : fdD f z M M = (if atF f 1 0 M = -1 then z else atF f 1 0 M) := by
  have e := fdD_at (f := f) (z := z) hM M (Nat.le_refl M)
  rwa [Nat.sub_self] at e
theorem ltr0 {v : Int32} {a : Nat} (e : v = nI a) (ha : a ≤ 100) : nI (101 - a - 0) - 1 = 100 - v := by
  subst e
  rw [show 101 - a - 0 = (100 - a) + 1 from by omega, nI_pred]
  apply Int32.toInt_inj.mp
  rw [nI_toInt (by omega), ti_sub (show (100 : Int32).toInt = 100 from by decide) (nI_toInt (show a < 2 ^ 31 by omega)) (by omega) (by omega)]
  omega
theorem ltr1 {M k : Nat} (h : k < M) : nI (M - k) - 1 = nI (M - (k + 1)) := by
  rw [show M - k = (M - (k + 1)) + 1 from by omega]
  exact nI_pred _
theorem ge0_nI {q : Nat} (h : q < 1000) : ¬ nI q < 0 := fun z => absurd ((nI_ltI (b := 0) (by omega) (by omega)).mp z) (Nat.not_lt_zero q)
theorem lit_nz {v : Int32} {a q : Nat} (e : v = nI a) (ha : 0 < a) (h : a + q < 1000) : ¬ v + nI q ≤ 0 := by
  subst e
  rw [nI_add]
  exact fun z => absurd ((nI_leI (b := 0) (by omega) (by omega)).mp z) (by omega)
theorem le_nz {y : Int32} (h : ¬ y ≤ 0) : ¬ y = 0 := fun z => h (by rw [z]; decide)
theorem ltF_yes {v h t g : Int32} {q : Nat} (h1 : t = 0 → rdeg (h + nI q * (10 + 30 * t)) (v + nI q) ≤ g) (h2 : ¬ t = 0 → ¬ rdeg (h + nI q * (10 + 30 * t)) (v + nI q) < g) : ltF v h t g q = 1 := by
  show (if (if t = 0 then rdeg (h + nI q * (10 + 30 * t)) (v + nI q) ≤ g else ¬ rdeg (h + nI q * (10 + 30 * t)) (v + nI q) < g) then (1 : Int32) else 0) = 1
  by_cases z : t = 0
  · rw [if_pos (show (if t = 0 then rdeg (h + nI q * (10 + 30 * t)) (v + nI q) ≤ g else ¬ rdeg (h + nI q * (10 + 30 * t)) (v + nI q) < g) by rw [if_pos z]; exact h1 z)]
  · rw [if_pos (show (if t = 0 then rdeg (h + nI q * (10 + 30 * t)) (v + nI q) ≤ g else ¬ rdeg (h + nI q * (10 + 30 * t)) (v + nI q) < g) by rw [if_neg z]; exact h2 z)]
theorem ltF_no {v h t g : Int32} {q : Nat} (h1 : t = 0 → ¬ rdeg (h + nI q * (10 + 30 * t)) (v + nI q) ≤ g) (h2 : ¬ t = 0 → rdeg (h + nI q * (10 + 30 * t)) (v + nI q) < g) : ¬ ltF v h t g q = 1 := by
  show ¬ (if (if t = 0 then rdeg (h + nI q * (10 + 30 * t)) (v + nI q) ≤ g else ¬ rdeg (h + nI q * (10 + 30 * t)) (v + nI q) < g) then (1 : Int32) else 0) = 1
  by_cases z : t = 0
  · rw [if_neg (show ¬ (if t = 0 then rdeg (h + nI q * (10 + 30 * t)) (v + nI q) ≤ g else ¬ rdeg (h + nI q * (10 + 30 * t)) (v + nI q) < g) by rw [if_pos z]; exact h1 z)]
    decide
  · rw [if_neg (show ¬ (if t = 0 then rdeg (h + nI q * (10 + 30 * t)) (v + nI q) ≤ g else ¬ rdeg (h + nI q * (10 + 30 * t)) (v + nI q) < g) by rw [if_neg z]; exact (fun w => w (h2 z)))]
    decide
theorem fdD_yes {f : Nat → Int32} {z : Int32} {M i : Nat} (h : f (M - (i + 1)) = 1) : fdD f z M (i + 1) = nI (M - (i + 1)) := if_pos h
theorem fdD_no {f : Nat → Int32} {z : Int32} {M i : Nat} (h : ¬ f (M - (i + 1)) = 1) : fdD f z M (i + 1) = fdD f z M i := if_neg h
theorem wrm_rank {v h : Nat → Int32} (H : Bd v h) {a b : Nat} (ha : a < 5) (hb : b < 5) (wa : wet v a = true) (wb : wet v b = true) (hr : rkB v h a b = true) : ¬ lg_cmp ((h a).toInt64 * (v b).toInt64 - (h b).toInt64 * (v a).toInt64) 0 < 0 ∧ (lg_cmp ((h a).toInt64 * (v b).toInt64 - (h b).toInt64 * (v a).toInt64) 0 = 0 → a < b) := by
  obtain ⟨⟨a1, a2⟩, a3, a4⟩ := H a ha
  obtain ⟨⟨b1, b2⟩, b3, b4⟩ := H b hb
  obtain ⟨e1, l1, u1⟩ := H.mul ha hb
  obtain ⟨e2, l2, u2⟩ := H.mul hb ha
  have w1 := ti_wet.mp wa
  have w2 := ti_wet.mp wb
  have q1 : ((h a).toInt64 * (v b).toInt64).toInt = (h a).toInt * (v b).toInt := by
    rw [Int64.toInt_mul, Int32.toInt_toInt64, Int32.toInt_toInt64]
    exact Int.bmod_eq_of_le (by omega) (by omega)
  have q2 : ((h b).toInt64 * (v a).toInt64).toInt = (h b).toInt * (v a).toInt := by
    rw [Int64.toInt_mul, Int32.toInt_toInt64, Int32.toInt_toInt64]
    exact Int.bmod_eq_of_le (by omega) (by omega)
  have q3 : ((h a).toInt64 * (v b).toInt64 - (h b).toInt64 * (v a).toInt64).toInt = (h a).toInt * (v b).toInt - (h b).toInt * (v a).toInt := by
    rw [Int64.toInt_sub, q1, q2]
    exact Int.bmod_eq_of_le (by omega) (by omega)
  rw [lg_cmp_lt, lg_cmp_eq, Int64.lt_iff_toInt_lt, ← Int64.toInt_inj, q3, Int64.toInt_zero]
  rw [rkB_int H ha hb] at hr
  refine ⟨fun z => ?_, fun z => ?_⟩
  · rcases hr with ⟨_, r | r | ⟨r, _⟩⟩ | ⟨r, _, _⟩
    · exact r w2
    · omega
    · omega
    · exact r w1
  · rcases hr with ⟨_, r | r | ⟨_, r⟩⟩ | ⟨r, _, _⟩
    · exact absurd w2 r
    · omega
    · exact r
    · exact absurd w1 r
theorem rk_dry {v h : Nat → Int32} (H : Bd v h) {a b : Nat} (ha : a < 5) (hb : b < 5) (wa : ¬ wet v a = true) (hr : rkB v h a b = true) : ¬ wet v b = true ∧ a < b := by
  rw [rkB_int H ha hb] at hr
  rcases hr with ⟨r, _⟩ | ⟨_, r, r2⟩
  · exact absurd (ti_wet.mpr r) wa
  · exact ⟨fun z => r (ti_wet.mp z), r2⟩
