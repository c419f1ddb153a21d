/-! what part 16 and 18 of whole hold of the class alone -/
/-- litres and heat in their ranges -/
def Bd (v h : Nat → Int32) : Prop := ∀ j, j < 5 → (0 ≤ (v j).toInt ∧ (v j).toInt ≤ 100) ∧ (0 ≤ (h j).toInt ∧ (h j).toInt ≤ 7000)
theorem upd_self (f : Nat → Int32) (k : Nat) : upd f k (f k) = f := by
  funext j
  unfold upd
  split
  · next e => rw [e]
  · rfl
/-- the differences of products, within the ranges -/
theorem Bd.mul {v h : Nat → Int32} (H : Bd v h) {a b : Nat} (ha : a < 5) (hb : b < 5) : (h a * v b).toInt = (h a).toInt * (v b).toInt ∧ 0 ≤ (h a).toInt * (v b).toInt ∧ (h a).toInt * (v b).toInt ≤ 700000 := by
  obtain ⟨-, h1, h2⟩ := H a ha
  obtain ⟨⟨h3, h4⟩, -⟩ := H b hb
  have p0 : 0 ≤ (h a).toInt * (v b).toInt := Int.mul_nonneg h1 h3
  have p1 : (h a).toInt * (v b).toInt ≤ 7000 * 100 := Int.mul_le_mul h2 h4 h3 (by decide)
  refine ⟨?_, p0, p1⟩
  rw [Int32.toInt_mul]
  exact Int.bmod_eq_of_le (by omega) (by omega)
theorem Bd.diff {v h : Nat → Int32} (H : Bd v h) {a b : Nat} (ha : a < 5) (hb : b < 5) : (h a * v b - h b * v a).toInt = (h a).toInt * (v b).toInt - (h b).toInt * (v a).toInt := by
  obtain ⟨e1, l1, u1⟩ := H.mul ha hb
  obtain ⟨e2, l2, u2⟩ := H.mul hb ha
  rw [Int32.toInt_sub, e1, e2]
  exact Int.bmod_eq_of_le (by omega) (by omega)
def kInc (K : Nat) : Nat := if K = 8 then 8 else K + 1
theorem m_can (x y : Int32) : y + (x - y) = x := by
  rw [Int32.add_comm, Int32.sub_add_cancel]
theorem vp_narZ {x : Int32} (h : vp_nar .boolean x = x) : x = 0 ∨ x = 1 := by
  have h2 : x &&& 1 = x := h
  obtain ⟨j, hj, e⟩ := pk_andE x (m := 1) 1 rfl
  rw [h2] at e
  subst e
  rcases (show j = 0 ∨ j = 1 by omega) with rfl | rfl
  · exact Or.inl rfl
  · exact Or.inr rfl
theorem Ok.m01 {σ : St} (h : Ok σ) : ∀ j, j < 5 → mB σ j = 0 ∨ mB σ j = 1 := fun j hj => vp_narZ (h.2.2.2.2.2.1 j hj)
theorem Ok.w01 {σ : St} (h : Ok σ) : ∀ j, j < 6 → wD σ j = 0 ∨ wD σ j = 1 := fun j hj => vp_narZ (h.2.2.2.2.2.2.1 j hj)
theorem hotO_wet {v h me : Nat → Int32} : ∀ {k j : Nat}, hotO v h me k = some j → wet v j = true
  | 0, j, q => by simp [hotO] at q
  | k + 1, j, q => by
    simp only [hotO] at q
    split at q
    · exact hotO_wet q
    · split at q
      · next w =>
        split at q
        · cases q; exact w
        · next j' hj =>
          split at q
          · cases q; exact w
          · cases q; exact hotO_wet hj
      · exact hotO_wet q
theorem colO_wet {v h me : Nat → Int32} : ∀ {k j : Nat}, colO v h me k = some j → wet v j = true
  | 0, j, q => by simp [colO] at q
  | k + 1, j, q => by
    simp only [colO] at q
    split at q
    · exact colO_wet q
    · split at q
      · next w =>
        split at q
        · cases q; exact w
        · next j' hj =>
          split at q
          · cases q; exact w
          · cases q; exact colO_wet hj
      · exact colO_wet q
theorem wet_sum {v h : Nat → Int32} (H : Bd v h) {a b : Nat} (ha : a < 5) (hb : b < 5) (w : wet v a = true) : ¬ v a + v b = 0 := by
  intro z
  have h1 := m_wet w
  obtain ⟨⟨a1, a2⟩, -⟩ := H a ha
  obtain ⟨⟨b1, b2⟩, -⟩ := H b hb
  have e : (v a + v b).toInt = (v a).toInt + (v b).toInt := by
    rw [Int32.toInt_add]
    exact Int.bmod_eq_of_le (by omega) (by omega)
  rw [z, Int32.toInt_zero] at e
  rw [Int32.le_iff_toInt_le, Int32.toInt_zero] at h1
  omega
