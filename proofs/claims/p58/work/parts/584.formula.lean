/-! litres by the formula are those by trying -/
theorem at_first {f : Nat → Int32} : ∀ (d i k : Nat), i ≤ k → k < i + d → (∀ j, i ≤ j → j < k → ¬ f j = 1) → f k = 1 → atF f 1 i d = nI k
  | 0, i, k, h1, h2, _, _ => absurd h2 (by omega)
  | d + 1, i, k, h1, h2, hno, hk => by
    by_cases e : i = k
    · subst e
      exact atF_yes (f := f) (i := 1) (k := i) hk
    · rw [atF_no (f := f) (i := 1) (k := i) (hno i (Nat.le_refl i) (by omega))]
      exact at_first d (i + 1) k (by omega) (by omega) (fun j h3 h4 => hno j (by omega) h4) hk
theorem at_none {f : Nat → Int32} : ∀ (d i : Nat), (∀ j, i ≤ j → j < i + d → ¬ f j = 1) → atF f 1 i d = -1
  | 0, i, _ => rfl
  | d + 1, i, h => by
    rw [atF_no (f := f) (i := 1) (k := i) (h i (Nat.le_refl i) (by omega))]
    exact at_none d (i + 1) (fun j h1 h2 => h j (by omega) (by omega))
theorem first_eq {f : Nat → Int32} {v r : Int32} {a : Nat} (C : Nat → Prop) (hv : v.toInt = (a : Int)) (ha : a ≤ 100) (hf : ∀ j, j + a ≤ 100 → (f j = 1 ↔ C j)) (hr : (∃ K : Nat, K < 20000 ∧ r = nI K ∧ C K ∧ ∀ j, j < K → ¬ C j) ∨ (r = -1 ∧ ∀ j, ¬ C j)) : (if r ≤ 100 - v then r else -1) = atF f 1 0 (101 - a) := by
  have e100 : (100 - v).toInt = 100 - (a : Int) := ti_sub (show (100 : Int32).toInt = 100 from by decide) hv (by omega) (by omega)
  rcases hr with ⟨K, h1, h2, h3, h4⟩ | ⟨h1, h2⟩
  · have eK : r.toInt = (K : Int) := by
      rw [h2]
      exact nI_toInt (by omega)
    by_cases z : K + a ≤ 100
    · rw [if_pos (ti_le.mpr (by rw [eK, e100]; omega)), h2]
      exact (at_first (101 - a) 0 K (Nat.zero_le K) (by omega) (fun j _ hj w => h4 j hj ((hf j (by omega)).mp w)) ((hf K z).mpr h3)).symm
    · rw [if_neg (fun w => by have h9 := ti_le.mp w; rw [eK, e100] at h9; omega)]
      exact (at_none (101 - a) 0 (fun j _ hj w => h4 j (by omega) ((hf j (by omega)).mp w))).symm
  · rw [h1, ite_self]
    exact (at_none (101 - a) 0 (fun j _ hj w => h2 j ((hf j (by omega)).mp w))).symm
theorem rdeg_ti {v h t : Int32} {a c T : Int} {k : Nat} (hv : v.toInt = a) (hh : h.toInt = c) (hT : (10 + 30 * t).toInt = T) (ha : 0 < a) (hk : a + (k : Int) ≤ 100) (hc : 0 ≤ c) (hc2 : c ≤ 7000) (hT0 : 0 ≤ T) (hT1 : T ≤ 70) : (rdeg (h + nI k * (10 + 30 * t)) (v + nI k)).toInt = (c + (k : Int) * T) / (a + (k : Int)) := by
  have ek : (nI k).toInt = (k : Int) := nI_toInt (by omega)
  have m0 : 0 ≤ (k : Int) * T := Int.mul_nonneg (by omega) hT0
  have m1 : (k : Int) * T ≤ 100 * 70 := Int.mul_le_mul (by omega) hT1 hT0 (by omega)
  have e1 : (nI k * (10 + 30 * t)).toInt = (k : Int) * T := ti_mul ek hT (by omega) (by omega)
  have e2 : (h + nI k * (10 + 30 * t)).toInt = c + (k : Int) * T := ti_add hh e1 (by omega) (by omega)
  have e3 : (v + nI k).toInt = a + (k : Int) := ti_add hv ek (by omega) (by omega)
  have n3 : ¬ v + nI k ≤ 0 := fun w => by
    have h9 := ti_le.mp w
    rw [e3, Int32.toInt_zero] at h9
    omega
  unfold rdeg
  rw [if_neg n3]
  exact ti_div e2 e3 (by omega) (by omega)
theorem ite_one {q : Prop} [Decidable q] : (if q then (1 : Int32) else 0) = 1 ↔ q := by
  by_cases h : q
  · rw [if_pos h]
    exact ⟨fun _ => h, fun _ => rfl⟩
  · rw [if_neg h]
    exact ⟨fun w => absurd w (by decide), fun w => absurd w h⟩
theorem lt_cool {v h g : Int32} {a c gg : Int} {k : Nat} (hv : v.toInt = a) (hh : h.toInt = c) (hg : g.toInt = gg) (ha : 0 < a) (hk : a + (k : Int) ≤ 100) (hc : 0 ≤ c) (hc2 : c ≤ 7000) : ltF v h 0 g k = 1 ↔ c - (gg + 1) * a < (gg + 1 - 10) * (k : Int) := by
  have e := rdeg_ti (t := 0) (T := 10) hv hh (by decide) ha hk hc hc2 (by omega) (by omega)
  have e0 : ltF v h 0 g k = 1 ↔ (rdeg (h + nI k * (10 + 30 * 0)) (v + nI k)).toInt ≤ gg := by
    refine Iff.trans (ite_one (q := (if (0 : Int32) = 0 then rdeg (h + nI k * (10 + 30 * 0)) (v + nI k) ≤ g else ¬ rdeg (h + nI k * (10 + 30 * 0)) (v + nI k) < g))) ?_
    rw [if_pos rfl, ti_le, hg]
  have x0 : (c + (k : Int) * 10) / (a + (k : Int)) ≤ gg ↔ c + (k : Int) * 10 < (gg + 1) * (a + (k : Int)) := by
    rw [← Int.lt_add_one_iff, Int.ediv_lt_iff_lt_mul (by omega)]
  have x1 : (gg + 1) * (a + (k : Int)) = (gg + 1) * a + (gg + 1) * (k : Int) := Int.mul_add _ _ _
  have x2 : (gg + 1 - 10) * (k : Int) = (gg + 1) * (k : Int) - 10 * (k : Int) := Int.sub_mul _ _ _
  rw [e0, e, x0, x1, x2]
  constructor <;> intro w <;> omega
theorem lt_warm {v h g t : Int32} {a c gg T : Int} {k : Nat} (hv : v.toInt = a) (hh : h.toInt = c) (hg : g.toInt = gg) (ht : ¬ t = 0) (hT : (10 + 30 * t).toInt = T) (ha : 0 < a) (hk : a + (k : Int) ≤ 100) (hc : 0 ≤ c) (hc2 : c ≤ 7000) (hT0 : 0 ≤ T) (hT1 : T ≤ 70) : ltF v h t g k = 1 ↔ gg * a - c ≤ (T - gg) * (k : Int) := by
  have e := rdeg_ti hv hh hT ha hk hc hc2 hT0 hT1
  have e0 : ltF v h t g k = 1 ↔ gg ≤ (rdeg (h + nI k * (10 + 30 * t)) (v + nI k)).toInt := by
    refine Iff.trans (ite_one (q := (if t = 0 then rdeg (h + nI k * (10 + 30 * t)) (v + nI k) ≤ g else ¬ rdeg (h + nI k * (10 + 30 * t)) (v + nI k) < g))) ?_
    rw [if_neg ht, Int32.not_lt, ti_le, hg]
  have x0 : gg ≤ (c + (k : Int) * T) / (a + (k : Int)) ↔ gg * (a + (k : Int)) ≤ c + (k : Int) * T := Int.le_ediv_iff_mul_le (by omega)
  have x1 : gg * (a + (k : Int)) = gg * a + gg * (k : Int) := Int.mul_add _ _ _
  have x2 : (T - gg) * (k : Int) = T * (k : Int) - gg * (k : Int) := Int.sub_mul _ _ _
  have x3 : (k : Int) * T = T * (k : Int) := Int.mul_comm _ _
  rw [e0, e, x0, x1, x2, x3]
  constructor <;> intro w <;> omega
theorem cool_hr {x y : Int32} {E Y : Int} (hx : x.toInt = E) (hy : y.toInt = Y) (hE : E ≤ 7000) : (∃ K : Nat, K < 20000 ∧ coolF x y = nI K ∧ E < Y * (K : Int) ∧ ∀ j : Nat, j < K → ¬ E < Y * (j : Int)) ∨ (coolF x y = -1 ∧ ∀ j : Nat, ¬ E < Y * (j : Int)) := by
  unfold coolF
  by_cases z : x < 0
  · have z1 : E < 0 := by
      have h9 := Int32.lt_iff_toInt_lt.mp z
      rw [hx, Int32.toInt_zero] at h9
      exact h9
    refine Or.inl ⟨0, by omega, if_pos z, ?_, fun j hj => absurd hj (Nat.not_lt_zero j)⟩
    have e0 : ((0 : Nat) : Int) = 0 := rfl
    rw [e0, Int.mul_zero]
    exact z1
  · have z1 : 0 ≤ E := by
      rw [Int32.lt_iff_toInt_lt, hx, Int32.toInt_zero] at z
      omega
    rw [if_neg z]
    by_cases w : y ≤ 0
    · have w1 : Y ≤ 0 := by
        have h9 := ti_le.mp w
        rw [hy, Int32.toInt_zero] at h9
        exact h9
      refine Or.inr ⟨if_pos w, fun j q => ?_⟩
      have h9 : Y * (j : Int) ≤ 0 * (j : Int) := Int.mul_le_mul_of_nonneg_right w1 (by omega)
      rw [Int.zero_mul] at h9
      omega
    · have w1 : 0 < Y := by
        rw [ti_le, hy, Int32.toInt_zero] at w
        omega
      have d0 : 0 ≤ E / Y := Int.ediv_nonneg z1 (by omega)
      have d1 : E / Y ≤ E := Int.ediv_le_self Y z1
      have ev : (x / y + 1).toInt = E / Y + 1 := ti_add (ti_div hx hy z1 w1) (show (1 : Int32).toInt = 1 from by decide) (by omega) (by omega)
      have e : (((E / Y + 1).toNat : Nat) : Int) = E / Y + 1 := Int.toNat_of_nonneg (by omega)
      rw [if_neg w]
      refine Or.inl ⟨(E / Y + 1).toNat, by omega, Int32.toInt_inj.mp (by rw [ev, nI_toInt (by omega), e]), ?_, fun j hj q => ?_⟩
      · have h9 : ¬ E / Y + 1 ≤ E / Y := by omega
        rw [Int.le_ediv_iff_mul_le w1] at h9
        rw [e, Int.mul_comm]
        omega
      · have h9 : (j : Int) ≤ E / Y := by omega
        rw [Int.le_ediv_iff_mul_le w1, Int.mul_comm] at h9
        omega
theorem warm_hr {x y : Int32} {E Y : Int} (hx : x.toInt = E) (hy : y.toInt = Y) (hE : E ≤ 9900) (hE2 : -7000 ≤ E) (hY : Y ≤ 70) (hY2 : -100 ≤ Y) : (∃ K : Nat, K < 20000 ∧ warmF x y = nI K ∧ E ≤ Y * (K : Int) ∧ ∀ j : Nat, j < K → ¬ E ≤ Y * (j : Int)) ∨ (warmF x y = -1 ∧ ∀ j : Nat, ¬ E ≤ Y * (j : Int)) := by
  unfold warmF
  by_cases z : x ≤ 0
  · have z1 : E ≤ 0 := by
      have h9 := ti_le.mp z
      rw [hx, Int32.toInt_zero] at h9
      exact h9
    refine Or.inl ⟨0, by omega, if_pos z, ?_, fun j hj => absurd hj (Nat.not_lt_zero j)⟩
    have e0 : ((0 : Nat) : Int) = 0 := rfl
    rw [e0, Int.mul_zero]
    exact z1
  · have z1 : 0 < E := by
      rw [ti_le, hx, Int32.toInt_zero] at z
      omega
    rw [if_neg z]
    by_cases w : y ≤ 0
    · have w1 : Y ≤ 0 := by
        have h9 := ti_le.mp w
        rw [hy, Int32.toInt_zero] at h9
        exact h9
      refine Or.inr ⟨if_pos w, fun j q => ?_⟩
      have h9 : Y * (j : Int) ≤ 0 * (j : Int) := Int.mul_le_mul_of_nonneg_right w1 (by omega)
      rw [Int.zero_mul] at h9
      omega
    · have w1 : 0 < Y := by
        rw [ti_le, hy, Int32.toInt_zero] at w
        omega
      have s1 : (x + y - 1).toInt = E + Y - 1 := ti_sub (ti_add hx hy (by omega) (by omega)) (show (1 : Int32).toInt = 1 from by decide) (by omega) (by omega)
      have ev : ((x + y - 1) / y).toInt = (E + Y - 1) / Y := ti_div s1 hy (by omega) w1
      have d0 : 0 ≤ (E + Y - 1) / Y := Int.ediv_nonneg (by omega) (by omega)
      have d1 : (E + Y - 1) / Y ≤ E + Y - 1 := Int.ediv_le_self Y (by omega)
      have e : ((((E + Y - 1) / Y).toNat : Nat) : Int) = (E + Y - 1) / Y := Int.toNat_of_nonneg d0
      rw [if_neg w]
      refine Or.inl ⟨((E + Y - 1) / Y).toNat, by omega, Int32.toInt_inj.mp (by rw [ev, nI_toInt (by omega), e]), ?_, fun j hj q => ?_⟩
      · have h9 : ¬ (E + Y - 1) / Y + 1 ≤ (E + Y - 1) / Y := by omega
        rw [Int.le_ediv_iff_mul_le w1, Int.add_mul, Int.one_mul] at h9
        rw [e, Int.mul_comm]
        omega
      · have h9 : (j : Int) + 1 ≤ (E + Y - 1) / Y := by omega
        rw [Int.le_ediv_iff_mul_le w1, Int.add_mul, Int.one_mul, Int.mul_comm] at h9
        omega
theorem frm_eq {v h : Nat → Int32} {j : Nat} {t g : Int32} (hbd : Bd v h) (hj : j < 5) (hw : wet v j = true) (ht : tapB t = true) (hg : inR g 0 99 = true) : frmF (v j) (h j) t g = atF (ltF (v j) (h j) t g) 1 0 (101 - bx (v j)) := by
  obtain ⟨⟨a0, a1⟩, c0, c1⟩ := hbd j hj
  have aw : 0 < (v j).toInt := ti_wet.mp hw
  obtain ⟨g1, g2⟩ := inR_iff.mp hg
  have g3 : 0 ≤ g.toInt := by
    rw [Int32.lt_iff_toInt_lt, Int32.toInt_zero] at g1
    omega
  have g4 : g.toInt ≤ 99 := by
    rw [Int32.lt_iff_toInt_lt, show (99 : Int32).toInt = 99 from by decide] at g2
    omega
  have hb := (bx_v hbd hj).2
  have hv : (v j).toInt = (bx (v j) : Int) := (congrArg Int32.toInt (bx_v hbd hj).1).trans (nI_toInt (by omega))
  have o1 : (1 : Int32).toInt = 1 := by decide
  have p0 : 0 ≤ (g.toInt + 1) * (v j).toInt := Int.mul_nonneg (by omega) (by omega)
  have p1 : (g.toInt + 1) * (v j).toInt ≤ 100 * 100 := Int.mul_le_mul (by omega) a1 (by omega) (by omega)
  have q0 : 0 ≤ g.toInt * (v j).toInt := Int.mul_nonneg (by omega) (by omega)
  have q1 : g.toInt * (v j).toInt ≤ 99 * 100 := Int.mul_le_mul g4 a1 (by omega) (by omega)
  have eg : (g + 1).toInt = g.toInt + 1 := ti_add rfl o1 (by omega) (by omega)
  have ex : (h j - (g + 1) * v j).toInt = (h j).toInt - (g.toInt + 1) * (v j).toInt := ti_sub rfl (ti_mul eg rfl (by omega) (by omega)) (by omega) (by omega)
  have ey : (g + 1 - (10 + 30 * 0)).toInt = g.toInt + 1 - 10 := ti_sub eg (by decide) (by omega) (by omega)
  have eu : (g * v j - h j).toInt = g.toInt * (v j).toInt - (h j).toInt := ti_sub (ti_mul rfl rfl (by omega) (by omega)) rfl (by omega) (by omega)
  obtain ⟨i, hi, e⟩ := tap_ix ht
  rcases (show i = 0 ∨ i = 1 ∨ i = 2 by omega) with rfl | rfl | rfl
  · have e0 : t = 0 := e.trans (by decide)
    subst e0
    have f1 : frm1 (v j) (h j) 0 g = coolF (h j - (g + 1) * v j) (g + 1 - (10 + 30 * 0)) := if_pos rfl
    unfold frmF
    rw [f1]
    exact first_eq (fun k : Nat => (h j).toInt - (g.toInt + 1) * (v j).toInt < (g.toInt + 1 - 10) * (k : Int)) hv hb (fun i hi => lt_cool rfl rfl rfl aw (by omega) c0 c1) (cool_hr ex ey (by omega))
  · have f1 : frm1 (v j) (h j) t g = warmF (g * v j - h j) (10 + 30 * t - g) := if_neg (by rw [e]; decide)
    have hT : (10 + 30 * t).toInt = 40 := by rw [e]; decide
    have ew : (10 + 30 * t - g).toInt = 40 - g.toInt := ti_sub hT rfl (by omega) (by omega)
    unfold frmF
    rw [f1]
    exact first_eq (fun k : Nat => g.toInt * (v j).toInt - (h j).toInt ≤ (40 - g.toInt) * (k : Int)) hv hb (fun i hi => lt_warm rfl rfl rfl (by rw [e]; decide) hT aw (by omega) c0 c1 (by omega) (by omega)) (warm_hr eu ew (by omega) (by omega) (by omega) (by omega))
  · have f1 : frm1 (v j) (h j) t g = warmF (g * v j - h j) (10 + 30 * t - g) := if_neg (by rw [e]; decide)
    have hT : (10 + 30 * t).toInt = 70 := by rw [e]; decide
    have ew : (10 + 30 * t - g).toInt = 70 - g.toInt := ti_sub hT rfl (by omega) (by omega)
    unfold frmF
    rw [f1]
    exact first_eq (fun k : Nat => g.toInt * (v j).toInt - (h j).toInt ≤ (70 - g.toInt) * (k : Int)) hv hb (fun i hi => lt_warm rfl rfl rfl (by rw [e]; decide) hT aw (by omega) c0 c1 (by omega) (by omega)) (warm_hr eu ew (by omega) (by omega) (by omega) (by omega))
