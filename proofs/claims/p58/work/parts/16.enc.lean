/-! what part 16 and 18 of whole hold of the class alone -/
/-- litres and heat in their ranges -/
def Bd (v h : Nat → Int32) : Prop := ∀ j, j < 5 → (0 ≤ (v j).toInt ∧ (v j).toInt ≤ 100) ∧ (0 ≤ (h j).toInt ∧ (h j).toInt ≤ 7000)
theorem upd_self (f : Nat → Int32) (k : Nat) : upd f k (f k) = f := by
  funext j
  unfold upd
  split
  · next e => rw [e]
  · rfl
def kInc (K : Nat) : Nat := if K = 8 then 8 else K + 1
theorem m_can (x y : Int32) : y + (x - y) = x := by
  rw [Int32.add_comm, Int32.sub_add_cancel]
theorem hotO_wet {v h me : Nat → Int32} : ∀ {k j : Nat}, hotO v h me k = some j → wet v j = true
  | 0, j, q => by simp [hotO] at q
  | k + 1, j, q => by
    simp only [hotO] at q
    split at q
    · exact hotO_wet q
    · split at q
      · next w =>
        split at q
        · cases q; exact w
        · next j' hj =>
          split at q
          · cases q; exact w
          · cases q; exact hotO_wet hj
      · exact hotO_wet q
theorem colO_wet {v h me : Nat → Int32} : ∀ {k j : Nat}, colO v h me k = some j → wet v j = true
  | 0, j, q => by simp [colO] at q
  | k + 1, j, q => by
    simp only [colO] at q
    split at q
    · exact colO_wet q
    · split at q
      · next w =>
        split at q
        · cases q; exact w
        · next j' hj =>
          split at q
          · cases q; exact w
          · cases q; exact colO_wet hj
      · exact colO_wet q
theorem wet_sum {v h : Nat → Int32} (H : Bd v h) {a b : Nat} (ha : a < 5) (hb : b < 5) (w : wet v a = true) : ¬ v a + v b = 0 := by
  intro z
  have h1 := m_wet w
  obtain ⟨⟨a1, a2⟩, -⟩ := H a ha
  obtain ⟨⟨b1, b2⟩, -⟩ := H b hb
  have e : (v a + v b).toInt = (v a).toInt + (v b).toInt := by
    rw [Int32.toInt_add]
    exact Int.bmod_eq_of_le (by omega) (by omega)
  rw [z, Int32.toInt_zero] at e
  rw [Int32.le_iff_toInt_le, Int32.toInt_zero] at h1
  omega
