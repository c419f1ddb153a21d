/-! small facts for the reference's questions and changes -/
theorem m_inI {j N : Nat} (h : j < N) (hN : N < 1000) : inI (nI j) (nI N) = true := by
  refine inI_iff.mpr ⟨?_, ?_⟩
  · intro z
    rw [show (0 : Int32) = nI 0 from rfl] at z
    have := (nI_ltI (a := j) (b := 0) (by omega) (by omega)).mp z
    omega
  · intro z
    have := (nI_leI (a := N) (b := j) (by omega) (by omega)).mp z
    omega
theorem m_updz {f : Nat → Int32} {k : Nat} {x : Int32} (h : f k = x) : upd f k x = f := h ▸ upd_self f k
theorem m_pne {x : Int32} (h : ¬ x ≤ 0) : ¬ x = -1 := fun e => h (by rw [e]; decide)
theorem m_hot1 {x : Int32} {P : Prop} (h : (¬ 1 * x ≤ 0) ↔ P) (p : P) : ¬ x ≤ 0 := by
  rw [Int32.one_mul] at h
  exact h.mpr p
theorem m_hot0 {x : Int32} {P : Prop} (h : (¬ 1 * x ≤ 0) ↔ P) (p : ¬ P) : x ≤ 0 := by
  rw [Int32.one_mul] at h
  exact Classical.byContradiction fun z => p (h.mp z)
theorem sumM_add {h me : Nat → Int32} {k : Nat} (hm : me k = 0 ∨ me k = 1) : sumM h me (k + 1) = sumM h me k + me k * h k := by
  simp only [sumM]
  rcases hm with z | z
  · rw [if_pos z, z, Int32.zero_mul, Int32.add_zero]
  · rw [if_neg (by rw [z]; decide), z, Int32.one_mul]
theorem rkB_irr {v h : Nat → Int32} {k : Nat} : ¬ rkB v h k k = true := by
  have e : hotter v h k k = false := by simp [hotter, Int32.le_refl]
  unfold rkB
  split
  · rw [e]; simp
  · simp
theorem hot_x {v h : Nat → Int32} (H : Bd v h) {a b : Nat} (ha : a < 5) (hb : b < 5) : (hotter v h a b = true ↔ ¬ h a * v b - h b * v a ≤ 0) ∧ (hotter v h b a = false ∧ hotter v h a b = false ↔ h a * v b - h b * v a = 0) := by
  obtain ⟨e1, l1, u1⟩ := H.mul ha hb
  obtain ⟨e2, l2, u2⟩ := H.mul hb ha
  have e3 := H.diff ha hb
  refine ⟨?_, ?_⟩
  · unfold hotter
    rw [decide_eq_true_iff, Int32.le_iff_toInt_le, Int32.le_iff_toInt_le, e3, e1, e2, Int32.toInt_zero]
    omega
  · unfold hotter
    rw [decide_eq_false_iff_not, decide_eq_false_iff_not, Int32.le_iff_toInt_le, Int32.le_iff_toInt_le, ← Int32.toInt_inj, e3, e1, e2, Int32.toInt_zero]
    omega
theorem rkB_I {v h : Nat → Int32} (H : Bd v h) {a b : Nat} (ha : a < 5) (hb : b < 5) : rkB v h a b = if wet v a = true then (if wet v b = true then (decide (¬ h a * v b - h b * v a ≤ 0) || (decide (h a * v b - h b * v a = 0) && decide (a < b))) else true) else if wet v b = true then false else decide (a < b) := by
  obtain ⟨h1, h2⟩ := hot_x H ha hb
  unfold rkB
  split
  · split
    · by_cases z : hotter v h a b = true
      · rw [if_pos z, decide_eq_true (h1.mp z)]; rfl
      · have z2 : hotter v h a b = false := by simpa using z
        rw [if_neg z, decide_eq_false (fun q => z (h1.mpr q)), Bool.false_or]
        by_cases y : hotter v h b a = true
        · rw [decide_eq_false (fun q => by rw [(h2.mpr q).1] at y; cases y)]
          simp [y]
        · have y2 : hotter v h b a = false := by simpa using y
          rw [decide_eq_true (h2.mp ⟨y2, z2⟩), y2]
          simp
    · rfl
  · rfl
def byD (p : Nat → Bool) (dq : Nat → Int32) (a b : Nat) : Int32 := 2 * (dq a - dq b) + (if p a = true then 1 else 0) - (if p b = true then 1 else 0)
theorem rkD_k (X Y : Int) (A B L : Bool) : (if X = Y then (if A = B then L else A) else decide (¬ X ≤ Y)) = (decide (¬ 2 * (X - Y) + (if A = true then 1 else 0) - (if B = true then 1 else 0) ≤ 0) || (decide (2 * (X - Y) + (if A = true then 1 else 0) - (if B = true then 1 else 0) = 0) && L)) := by
  by_cases z : X = Y
  · subst z
    rw [Int.sub_self, if_pos (show X = X from rfl)]
    cases A <;> cases B <;> cases L <;> rfl
  · rw [if_neg z]
    have hA : (if A = true then (1 : Int) else 0) = 0 ∨ (if A = true then (1 : Int) else 0) = 1 := by cases A <;> simp
    have hB : (if B = true then (1 : Int) else 0) = 0 ∨ (if B = true then (1 : Int) else 0) = 1 := by cases B <;> simp
    generalize (if A = true then (1 : Int) else 0) = P at *
    generalize (if B = true then (1 : Int) else 0) = Q at *
    by_cases y : X ≤ Y
    · rw [decide_eq_false (show ¬ ¬ X ≤ Y from fun q => q y), decide_eq_false (show ¬ ¬ 2 * (X - Y) + P - Q ≤ 0 from fun q => q (by omega)), decide_eq_false (show ¬ 2 * (X - Y) + P - Q = 0 by omega)]
      rfl
    · rw [decide_eq_true (show ¬ X ≤ Y from y), decide_eq_true (show ¬ 2 * (X - Y) + P - Q ≤ 0 by omega)]
      rfl
theorem rkD_I {p : Nat → Bool} {dq : Nat → Int32} (H : ∀ j, j < 6 → 0 ≤ (dq j).toInt ∧ (dq j).toInt ≤ 1000000) {a b : Nat} (ha : a < 6) (hb : b < 6) : rkD p dq a b = (decide (¬ byD p dq a b ≤ 0) || (decide (byD p dq a b = 0) && decide (a < b))) := by
  obtain ⟨a0, a1⟩ := H a ha
  obtain ⟨b0, b1⟩ := H b hb
  have e1 : (dq a - dq b).toInt = (dq a).toInt - (dq b).toInt := by
    rw [Int32.toInt_sub]
    exact Int.bmod_eq_of_le (by omega) (by omega)
  have e2 : (2 * (dq a - dq b)).toInt = 2 * ((dq a).toInt - (dq b).toInt) := by
    rw [Int32.toInt_mul, e1, show (2 : Int32).toInt = 2 from by decide]
    exact Int.bmod_eq_of_le (by omega) (by omega)
  have hi : ∀ c : Bool, ((if c = true then (1 : Int32) else 0).toInt = if c = true then 1 else 0) := by decide
  have e3 : (byD p dq a b).toInt = 2 * ((dq a).toInt - (dq b).toInt) + (if p a = true then 1 else 0) - (if p b = true then 1 else 0) := by
    unfold byD
    rw [Int32.toInt_sub, Int32.toInt_add, e2, hi, hi, Int.bmod_eq_of_le (n := 2 * ((dq a).toInt - (dq b).toInt) + _) (by split <;> omega) (by split <;> omega)]
    exact Int.bmod_eq_of_le (by split <;> split <;> omega) (by split <;> split <;> omega)
  have e4 : (dq a = dq b) ↔ (dq a).toInt = (dq b).toInt := Int32.toInt_inj.symm
  have e5 : byD p dq a b = 0 ↔ (byD p dq a b).toInt = 0 := Int32.toInt_inj.symm
  have e6 : byD p dq a b ≤ 0 ↔ (byD p dq a b).toInt ≤ 0 := Int32.le_iff_toInt_le
  have e7 : dq a ≤ dq b ↔ (dq a).toInt ≤ (dq b).toInt := Int32.le_iff_toInt_le
  unfold rkD
  simp only [e4, e5, e6, e7, e3]
  exact rkD_k _ _ _ _ _
def lasF (f : Nat → Int32) (i : Int32) : Nat → Int32
  | 0 => 0
  | k + 1 => if f k = i then nI k else lasF f i k
theorem atF_no {f : Nat → Int32} {i : Int32} {k d : Nat} (h : ¬ f k = i) : atF f i k (d + 1) = atF f i (k + 1) d := if_neg h
theorem atF_yes {f : Nat → Int32} {i : Int32} {k d : Nat} (h : f k = i) : atF f i k (d + 1) = nI k := if_pos h
theorem m_rdeg {h x : Int32} (hx : ¬ x ≤ 0) : rdeg h x = h / x := if_neg hx
theorem m_nIne {k : Nat} (h : k < 2147483648) : ¬ nI k = -1 := fun e => by
  have := congrArg Int32.toInt e
  rw [nI_toInt h, show (-1 : Int32).toInt = -1 from by decide] at this
  omega
theorem bx_v {v h : Nat → Int32} (H : Bd v h) {j : Nat} (hj : j < 5) : v j = nI (bx (v j)) ∧ bx (v j) ≤ 100 := by
  obtain ⟨⟨h1, h2⟩, -⟩ := H j hj
  obtain ⟨n, n1, n2⟩ := nI_of (show ¬ v j < 0 from fun z => by rw [Int32.lt_iff_toInt_lt, Int32.toInt_zero] at z; omega)
  have e : bx (nI n) = n := nI_clamp n1
  rw [n2, e]
  rw [n2, nI_toInt n1] at h2
  exact ⟨rfl, by omega⟩
theorem bx_p {v h : Nat → Int32} (H : Bd v h) {j : Nat} (hj : j < 5) (hw : wet v j = true) : ∀ k : Nat, k ≤ 101 → ¬ v j + nI k ≤ 0 := by
  intro k hk z
  obtain ⟨⟨h1, h2⟩, -⟩ := H j hj
  have w : ¬ v j ≤ 0 := of_decide_eq_true hw
  rw [Int32.le_iff_toInt_le, Int32.toInt_zero] at w
  rw [Int32.le_iff_toInt_le, Int32.toInt_zero, Int32.toInt_add, nI_toInt (by omega), Int.bmod_eq_of_le (by omega) (by omega)] at z
  omega
theorem cpy_row {f g e : Nat → Int32} {sp : Nat} (h : ∀ j, j < 89 → f (sp + j) = e j) {j : Nat} (hj : j < 89) : va_cpy f g sp 0 89 j = e j := by
  unfold va_cpy
  rw [if_pos ⟨Nat.zero_le _, by omega⟩, Nat.sub_zero]
  exact h j hj
theorem tickS_nB (σ : St) : nB (tickS σ) = nB σ := (defectN_nB (shaS (draS (losS σ))) _).trans ((drainN_nB (losS σ) _).trans (loseN_nB σ _))
theorem tickN_nB (σ : St) : ∀ k, nB (tickN σ k) = nB σ
  | 0 => rfl
  | k + 1 => (tickS_nB _).trans (tickN_nB σ k)
theorem m_tu {f : Nat → Int32} {k d : Nat} {R : Int32} (ho : f k = 0 ∨ f k = 1) (h : ¬ f k = 1) (hR : atF f 0 k (d + 1) = R) : nI k = R := (atF_yes (ho.resolve_right h)).symm.trans hR
theorem atF_end {f : Nat → Int32} {i : Int32} {k : Nat} {R : Int32} (h : ¬ f k = i) (hR : atF f i k (0 + 1) = R) : R = -1 := hR.symm.trans (atF_no h)
theorem m_abs {n : Nat} (h : n < 2147483648) : (if 0 ≤ nI n then nI n else 0 - nI n) = nI n := if_pos ((nI_leI (a := 0) (b := n) (by omega) (by omega)).mpr (Nat.zero_le _))
/-- text -/
def dgs (n : Nat) : List Int32 := if n < 10 then [nI (48 + n)] else if n < 100 then [nI (48 + n / 10), nI (48 + n % 10)] else [nI (48 + n / 10 / 10), nI (48 + n / 10 % 10), nI (48 + n % 10)]
def wrS (f : Nat → Int32) : Nat → List Int32 → Nat → Int32
  | _, [] => f
  | k, x :: xs => wrS (upd f k x) (k + 1) xs
theorem wrS_app {ys : List Int32} : ∀ {xs : List Int32} {k p : Nat} {f : Nat → Int32}, p = k + xs.length → wrS (wrS f k xs) p ys = wrS f k (xs ++ ys)
  | [], k, p, f, h => by
    have e : p = k := by simpa using h
    subst e
    rfl
  | x :: xs, k, p, f, h => wrS_app (xs := xs) (by simp only [List.length_cons] at h; omega)
def rnd (σ : St) (j : Nat) : List Int32 := dgs j ++ [58] ++ dgs (bx (vB σ j)) ++ [108] ++ (if wet (vB σ) j = true then dgs (bx (rdeg (hB σ j) (vB σ j))) ++ [67] else []) ++ [if pB σ j = 0 then 45 else 43] ++ (if mB σ j = 0 then [] else [42])
theorem dgs_le (n : Nat) : 1 ≤ (dgs n).length ∧ (dgs n).length ≤ 3 := by
  unfold dgs
  split
  · simp
  · split <;> simp
theorem pk_d10 {n : Nat} (h : n < 1000) : nI n / 10 = nI (n / 10) := by
  rw [← Int32.toInt_inj, Int32.toInt_div_of_ne_right _ _ (by decide), nI_toInt (by omega), nI_toInt (by omega), show (10 : Int32).toInt = 10 from by decide, Int.tdiv_eq_ediv_of_nonneg (by omega)]
  omega
theorem pk_m10 {n : Nat} (h : n < 1000) : (((48 : Int32) + (nI n - nI n / 10 * 10)).toUInt32 % 65536).toInt32 = nI (48 + n % 10) := by
  have e : (48 : Int32) + (nI n - nI n / 10 * 10) = nI (48 + n % 10) := by
    rw [pk_d10 h]
    rw [← Int32.toInt_inj]
    have e1 : (nI (n / 10) * 10).toInt = (n / 10 : Nat) * 10 := by
      rw [Int32.toInt_mul, nI_toInt (by omega), show (10 : Int32).toInt = 10 from by decide]
      exact Int.bmod_eq_of_le (by omega) (by omega)
    have e2 : (nI n - nI (n / 10) * 10).toInt = (n % 10 : Nat) := by
      rw [Int32.toInt_sub, e1, nI_toInt (by omega), Int.bmod_eq_of_le (by omega) (by omega)]
      omega
    rw [Int32.toInt_add, e2, nI_toInt (by omega), show (48 : Int32).toInt = 48 from by decide, Int.bmod_eq_of_le (by omega) (by omega)]
    omega
  rw [e]
  have hk : ∀ k : Nat, k < 58 → ((nI k).toUInt32 % 65536).toInt32 = nI k := by decide
  exact hk _ (by omega)
