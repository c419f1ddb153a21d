/-! what stays true of a State through all calls -/
theorem ti_add {x y : Int32} {a b : Int} (hx : x.toInt = a) (hy : y.toInt = b) (h1 : -2147483648 ≤ a + b) (h2 : a + b < 2147483648) : (x + y).toInt = a + b := by
  rw [Int32.toInt_add, hx, hy]
  exact Int.bmod_eq_of_le (by omega) (by omega)
theorem ti_sub {x y : Int32} {a b : Int} (hx : x.toInt = a) (hy : y.toInt = b) (h1 : -2147483648 ≤ a - b) (h2 : a - b < 2147483648) : (x - y).toInt = a - b := by
  rw [Int32.toInt_sub, hx, hy]
  exact Int.bmod_eq_of_le (by omega) (by omega)
theorem ti_mul {x y : Int32} {a b : Int} (hx : x.toInt = a) (hy : y.toInt = b) (h1 : -2147483648 ≤ a * b) (h2 : a * b < 2147483648) : (x * y).toInt = a * b := by
  rw [Int32.toInt_mul, hx, hy]
  exact Int.bmod_eq_of_le (by omega) (by omega)
theorem ti_m1 {y : Int32} (h : 0 < y.toInt) : y ≠ -1 := fun q => by
  rw [q] at h
  exact absurd h (by decide)
theorem ti_div {x y : Int32} {a b : Int} (hx : x.toInt = a) (hy : y.toInt = b) (ha : 0 ≤ a) (hb : 0 < b) : (x / y).toInt = a / b := by
  rw [Int32.toInt_div_of_ne_right x y (ti_m1 (by omega)), hx, hy, Int.tdiv_eq_ediv_of_nonneg ha]
theorem ti_divN {x y : Int32} {a b : Int} (hx : x.toInt = a) (hy : y.toInt = b) (ha : a ≤ 0) (hb : 0 < b) : (x / y).toInt = -((-a) / b) := by
  have e := Int.neg_tdiv (a := -a) (b := b)
  rw [Int.neg_neg] at e
  rw [Int32.toInt_div_of_ne_right x y (ti_m1 (by omega)), hx, hy, e, Int.tdiv_eq_ediv_of_nonneg (by omega)]
theorem ti_le {x y : Int32} : x ≤ y ↔ x.toInt ≤ y.toInt := Int32.le_iff_toInt_le
theorem ti_wet {v : Nat → Int32} {k : Nat} : wet v k = true ↔ 0 < (v k).toInt := by
  unfold wet
  rw [decide_eq_true_iff, Int32.le_iff_toInt_le, Int32.toInt_zero]
  omega
/-- litres and heat of one bath -/
def Wt (x y : Int32) : Prop := 0 ≤ x.toInt ∧ x.toInt ≤ 100 ∧ 0 ≤ y.toInt ∧ y.toInt ≤ 70 * x.toInt
def WtA (v h : Nat → Int32) : Prop := ∀ j, j < 5 → Wt (v j) (h j)
theorem WtA.bd {v h : Nat → Int32} (w : WtA v h) : Bd v h := fun j hj => by
  obtain ⟨a, b, c, d⟩ := w j hj
  exact ⟨⟨a, b⟩, c, by omega⟩
theorem wtA_upd {v h : Nat → Int32} (w : WtA v h) {k : Nat} {x y : Int32} (hw : Wt x y) : WtA (upd v k x) (upd h k y) := fun j hj => by
  unfold upd
  split
  · exact hw
  · exact w j hj
theorem wt_lose {x y : Int32} (w : Wt x y) : Wt x (y - (y - 20 * x) / 10) ∧ True := by
  obtain ⟨a, b, c, d⟩ := w
  have e1 : (20 * x).toInt = 20 * x.toInt := ti_mul (by decide) rfl (by omega) (by omega)
  have e2 : (y - 20 * x).toInt = y.toInt - 20 * x.toInt := ti_sub rfl e1 (by omega) (by omega)
  refine ⟨?_, trivial⟩
  by_cases z : 0 ≤ y.toInt - 20 * x.toInt
  · have e3 : ((y - 20 * x) / 10).toInt = (y.toInt - 20 * x.toInt) / 10 := ti_div e2 (by decide) z (by decide)
    have e4 : (y - (y - 20 * x) / 10).toInt = y.toInt - (y.toInt - 20 * x.toInt) / 10 := ti_sub rfl e3 (by omega) (by omega)
    refine ⟨a, b, ?_, ?_⟩ <;> rw [e4] <;> omega
  · have e3 : ((y - 20 * x) / 10).toInt = -((-(y.toInt - 20 * x.toInt)) / 10) := ti_divN e2 (by decide) (by omega) (by decide)
    have e4 : (y - (y - 20 * x) / 10).toInt = y.toInt - -((-(y.toInt - 20 * x.toInt)) / 10) := ti_sub rfl e3 (by omega) (by omega)
    refine ⟨a, b, ?_, ?_⟩ <;> rw [e4] <;> omega
/-- a part q of v litres carries d of the heat h -/
theorem part_i {h v q : Int} (hv : 0 < v) (q0 : 0 ≤ q) (q1 : q ≤ v) (h0 : 0 ≤ h) (h1 : h ≤ 70 * v) : 0 ≤ h * q / v ∧ h * q / v ≤ h ∧ h - h * q / v ≤ 70 * (v - q) ∧ h * q / v ≤ 70 * q := by
  have n0 : 0 ≤ h * q := Int.mul_nonneg h0 q0
  have l1 : v * (h * q / v) ≤ h * q := Int.mul_ediv_self_le (Int.ne_of_gt hv)
  have l2 : h * q < v * (h * q / v) + v := Int.lt_mul_ediv_self_add hv
  have l0 : 0 ≤ h * q / v := Int.ediv_nonneg n0 (Int.le_of_lt hv)
  generalize h * q / v = d at *
  have m1 : h * q ≤ h * v := Int.mul_le_mul_of_nonneg_left q1 h0
  have m2 : h * (v - q) ≤ 70 * v * (v - q) := Int.mul_le_mul_of_nonneg_right h1 (by omega)
  have m3 : h * q ≤ 70 * v * q := Int.mul_le_mul_of_nonneg_right h1 q0
  refine ⟨l0, ?_, ?_, ?_⟩
  · apply Classical.byContradiction
    intro z
    have a1 : v * (h + 1) ≤ v * d := Int.mul_le_mul_of_nonneg_left (by omega) (Int.le_of_lt hv)
    rw [Int.mul_add, Int.mul_one, Int.mul_comm v h] at a1
    omega
  · apply Classical.byContradiction
    intro z
    have a1 : v * (70 * (v - q) + 1 + d) ≤ v * h := Int.mul_le_mul_of_nonneg_left (by omega) (Int.le_of_lt hv)
    have a2 : v * (70 * (v - q) + 1 + d) = 70 * v * (v - q) + v + v * d := by
      rw [Int.mul_add, Int.mul_add, Int.mul_one, ← Int.mul_assoc, Int.mul_comm v 70]
    have a3 : v * h = h * (v - q) + h * q := by rw [← Int.mul_add, Int.mul_comm v h, Int.sub_add_cancel]
    omega
  · apply Classical.byContradiction
    intro z
    have a1 : v * (70 * q + 1) ≤ v * d := Int.mul_le_mul_of_nonneg_left (by omega) (Int.le_of_lt hv)
    have a2 : v * (70 * q + 1) = 70 * v * q + v := by rw [Int.mul_add, Int.mul_one, ← Int.mul_assoc, Int.mul_comm v 70]
    omega
/-- out of a bath with water -/
theorem wt_part {x y q : Int32} (w : Wt x y) (hx : 0 < x.toInt) (q0 : 0 ≤ q.toInt) (q1 : q.toInt ≤ x.toInt) :
    (y * q / x).toInt = y.toInt * q.toInt / x.toInt ∧ Wt (x - q) (y - y * q / x) ∧ 0 ≤ (y * q / x).toInt ∧ (y * q / x).toInt ≤ 70 * q.toInt := by
  obtain ⟨a, b, c, d⟩ := w
  obtain ⟨p1, p2, p3, p4⟩ := part_i hx q0 q1 c d
  have n0 : 0 ≤ y.toInt * q.toInt := Int.mul_nonneg c q0
  have n1 : y.toInt * q.toInt ≤ 7000 * 100 := Int.mul_le_mul (by omega) (by omega) q0 (by decide)
  have e1 : (y * q).toInt = y.toInt * q.toInt := ti_mul rfl rfl (by omega) (by omega)
  have e2 : (y * q / x).toInt = y.toInt * q.toInt / x.toInt := ti_div e1 rfl n0 hx
  have e3 : (y - y * q / x).toInt = y.toInt - y.toInt * q.toInt / x.toInt := ti_sub rfl e2 (by omega) (by omega)
  have e4 : (x - q).toInt = x.toInt - q.toInt := ti_sub rfl rfl (by omega) (by omega)
  refine ⟨e2, ⟨?_, ?_, ?_, ?_⟩, ?_, ?_⟩
  · rw [e4]; omega
  · rw [e4]; omega
  · rw [e3]; omega
  · rw [e3, e4]; omega
  · rw [e2]; exact p1
  · rw [e2]; exact p4
/-- into a bath -/
theorem wt_into {x y q u : Int32} (w : Wt x y) (q0 : 0 ≤ q.toInt) (q1 : x.toInt + q.toInt ≤ 100) (u0 : 0 ≤ u.toInt) (u1 : u.toInt ≤ 70 * q.toInt) : Wt (x + q) (y + u) := by
  obtain ⟨a, b, c, d⟩ := w
  have e3 : (y + u).toInt = y.toInt + u.toInt := ti_add rfl rfl (by omega) (by omega)
  have e4 : (x + q).toInt = x.toInt + q.toInt := ti_add rfl rfl (by omega) (by omega)
  refine ⟨?_, ?_, ?_, ?_⟩
  · rw [e4]; omega
  · rw [e4]; omega
  · rw [e3]; omega
  · rw [e3, e4]; omega
/-- sharing -/
theorem share_i {va ha vb hb u : Int} (hva : 0 < va) (hvb : 0 < vb) (h0 : 0 ≤ ha) (h1 : 0 ≤ hb) (a1 : ha ≤ 70 * va) (b1 : hb ≤ 70 * vb) (hD : hb * va ≤ ha * vb) (u0 : 0 ≤ u) (hu : u ≤ (ha * vb - hb * va) / (va + vb)) : u ≤ ha ∧ hb + u ≤ 70 * vb := by
  have hs : 0 < va + vb := by omega
  have l1 : (va + vb) * ((ha * vb - hb * va) / (va + vb)) ≤ ha * vb - hb * va := Int.mul_ediv_self_le (Int.ne_of_gt hs)
  have l2 : (va + vb) * u ≤ (va + vb) * ((ha * vb - hb * va) / (va + vb)) := Int.mul_le_mul_of_nonneg_left hu (Int.le_of_lt hs)
  have n1 : 0 ≤ hb * va := Int.mul_nonneg h1 (Int.le_of_lt hva)
  have n2 : 0 ≤ ha * va := Int.mul_nonneg h0 (Int.le_of_lt hva)
  generalize (ha * vb - hb * va) / (va + vb) = d at *
  constructor
  · apply Classical.byContradiction
    intro z
    have a2 : (va + vb) * (ha + 1) ≤ (va + vb) * u := Int.mul_le_mul_of_nonneg_left (by omega) (Int.le_of_lt hs)
    rw [Int.mul_add, Int.mul_one, Int.add_mul, Int.mul_comm va ha, Int.mul_comm vb ha] at a2
    omega
  · apply Classical.byContradiction
    intro z
    have a2 : (va + vb) * (70 * vb + 1) ≤ (va + vb) * (hb + u) := Int.mul_le_mul_of_nonneg_left (by omega) (Int.le_of_lt hs)
    rw [Int.mul_add (va + vb) hb u, Int.add_mul va vb hb, Int.mul_comm va hb, Int.mul_comm vb hb] at a2
    have a3 : (va + vb) * (70 * vb + 1) = 70 * va * vb + 70 * vb * vb + (va + vb) := by
      rw [Int.mul_add, Int.mul_one, Int.add_mul]
      congr 1
      congr 1
      · rw [Int.mul_left_comm, Int.mul_assoc]
      · rw [Int.mul_left_comm, Int.mul_assoc]
    have b2 : ha * vb ≤ 70 * va * vb := Int.mul_le_mul_of_nonneg_right a1 (Int.le_of_lt hvb)
    have b3 : hb * vb ≤ 70 * vb * vb := Int.mul_le_mul_of_nonneg_right b1 (Int.le_of_lt hvb)
    omega
theorem hotO_me {v h me : Nat → Int32} : ∀ {k j : Nat}, hotO v h me k = some j → ¬ me j = 0
  | 0, j, q => by simp [hotO] at q
  | k + 1, j, q => by
    by_cases hm : me k = 0
    · simp only [hotO, if_pos hm] at q
      exact hotO_me q
    · by_cases hw : wet v k = true
      · cases hO : hotO v h me k with
        | none => simp only [hotO, if_neg hm, if_pos hw, hO, Option.some.injEq] at q; exact q ▸ hm
        | some i =>
          simp only [hotO, if_neg hm, if_pos hw, hO] at q
          split at q <;> simp only [Option.some.injEq] at q
          · exact q ▸ hm
          · exact q ▸ hotO_me hO
      · simp only [hotO, if_neg hm, if_neg hw] at q
        exact hotO_me q
theorem colO_me {v h me : Nat → Int32} : ∀ {k j : Nat}, colO v h me k = some j → ¬ me j = 0
  | 0, j, q => by simp [colO] at q
  | k + 1, j, q => by
    by_cases hm : me k = 0
    · simp only [colO, if_pos hm] at q
      exact colO_me q
    · by_cases hw : wet v k = true
      · cases hO : colO v h me k with
        | none => simp only [colO, if_neg hm, if_pos hw, hO, Option.some.injEq] at q; exact q ▸ hm
        | some i =>
          simp only [colO, if_neg hm, if_pos hw, hO] at q
          split at q <;> simp only [Option.some.injEq] at q
          · exact q ▸ hm
          · exact q ▸ colO_me hO
      · simp only [colO, if_neg hm, if_neg hw] at q
        exact colO_me q
/-- hotter, as integers -/
theorem hot_i {v h : Nat → Int32} (H : Bd v h) {a b : Nat} (ha : a < 5) (hb : b < 5) : hotter v h a b = true ↔ (h b).toInt * (v a).toInt < (h a).toInt * (v b).toInt := by
  obtain ⟨e1, -, -⟩ := H.mul ha hb
  obtain ⟨e2, -, -⟩ := H.mul hb ha
  unfold hotter
  rw [decide_eq_true_iff, Int32.le_iff_toInt_le, e1, e2]
  omega
theorem cross {a b c va vb vc : Int} (hb : 0 < vb) (ha : 0 ≤ va) (hc : 0 ≤ vc) (h1 : a * vb ≤ b * va) (h2 : b * vc ≤ c * vb) : a * vc ≤ c * va := by
  have m1 : a * vb * vc ≤ b * va * vc := Int.mul_le_mul_of_nonneg_right h1 hc
  have m2 : b * vc * va ≤ c * vb * va := Int.mul_le_mul_of_nonneg_right h2 ha
  apply Classical.byContradiction
  intro z
  have m3 : vb * (c * va + 1) ≤ vb * (a * vc) := Int.mul_le_mul_of_nonneg_left (by omega) (Int.le_of_lt hb)
  rw [Int.mul_add, Int.mul_one] at m3
  have e1 : a * vb * vc = vb * (a * vc) := by rw [Int.mul_comm a vb, Int.mul_assoc]
  have e2 : b * va * vc = b * vc * va := Int.mul_right_comm b va vc
  have e3 : c * vb * va = vb * (c * va) := by rw [Int.mul_comm c vb, Int.mul_assoc]
  omega
theorem hotO_ex {v h me : Nat → Int32} : ∀ {k j : Nat}, j < k → ¬ me j = 0 → wet v j = true → ¬ hotO v h me k = none
  | k + 1, j, hj, hmj, hwj => by
    intro q
    by_cases hm : me k = 0
    · simp only [hotO, if_pos hm] at q
      rcases Nat.lt_or_ge j k with z | z
      · exact hotO_ex z hmj hwj q
      · exact hmj (by rw [show j = k by omega]; exact hm)
    · by_cases hw : wet v k = true
      · cases hO : hotO v h me k with
        | none => simp [hotO, if_neg hm, if_pos hw, hO] at q
        | some i =>
          simp only [hotO, if_neg hm, if_pos hw, hO] at q
          split at q <;> simp at q
      · simp only [hotO, if_neg hm, if_neg hw] at q
        rcases Nat.lt_or_ge j k with z | z
        · exact hotO_ex z hmj hwj q
        · exact hw (by rw [show k = j by omega]; exact hwj)
theorem hotO_max {v h me : Nat → Int32} (H : Bd v h) : ∀ {k a : Nat}, k ≤ 5 → hotO v h me k = some a → ∀ j, j < k → ¬ me j = 0 → wet v j = true → (h j).toInt * (v a).toInt ≤ (h a).toInt * (v j).toInt
  | 0, a, _, q => by simp [hotO] at q
  | k + 1, a, h5, q => by
    intro j hj hmj hwj
    by_cases hm : me k = 0
    · simp only [hotO, if_pos hm] at q
      exact hotO_max H (by omega) q j (by rcases Nat.lt_or_ge j k with z | z; exact z; exact absurd (show me j = 0 by rw [show j = k by omega]; exact hm) hmj) hmj hwj
    · by_cases hw : wet v k = true
      · cases hO : hotO v h me k with
        | none =>
          simp only [hotO, if_neg hm, if_pos hw, hO, Option.some.injEq] at q
          subst q
          rcases Nat.lt_or_ge j k with z | z
          · exact absurd hO (hotO_ex z hmj hwj)
          · rw [show j = k by omega]; exact Int.le_refl _
        | some i =>
          have hi := hotO_lt hO
          have wi := ti_wet.mp (hotO_wet hO)
          have wk := ti_wet.mp hw
          have wj := ti_wet.mp hwj
          simp only [hotO, if_neg hm, if_pos hw, hO] at q
          by_cases t : hotter v h k i = true
          · rw [if_pos t] at q
            simp only [Option.some.injEq] at q
            subst q
            have t2 := (hot_i H (by omega) (by omega)).mp t
            rcases Nat.lt_or_ge j k with z | z
            · exact cross wi (by omega) (by omega) (hotO_max H (by omega) hO j z hmj hwj) (by omega)
            · rw [show j = k by omega]; exact Int.le_refl _
          · rw [if_neg t] at q
            simp only [Option.some.injEq] at q
            subst q
            have t2 : ¬ (h i).toInt * (v k).toInt < (h k).toInt * (v i).toInt := fun z => t ((hot_i H (show k < 5 by omega) (show i < 5 by omega)).mpr z)
            rcases Nat.lt_or_ge j k with z | z
            · exact hotO_max H (by omega) hO j z hmj hwj
            · rw [show j = k by omega]; omega
      · simp only [hotO, if_neg hm, if_neg hw] at q
        exact hotO_max H (by omega) q j (by rcases Nat.lt_or_ge j k with z | z; exact z; exact absurd (show wet v k = true by rw [show k = j by omega]; exact hwj) hw) hmj hwj
