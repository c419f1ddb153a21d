/-! for the text -/
theorem nar_d {k : Nat} (h : k < 10) : vp_nar .char (nI (48 + k)) = nI (48 + k) := by
  have e : ∀ k : Nat, k < 10 → vp_nar .char (nI (48 + k)) = nI (48 + k) := by decide
  exact e k h
theorem bx_r {v h : Nat → Int32} (H : WtA v h) {j : Nat} (hj : j < 5) : rdeg (h j) (v j) = nI (bx (rdeg (h j) (v j))) ∧ bx (rdeg (h j) (v j)) ≤ 70 := by
  obtain ⟨a, b, c, d⟩ := H j hj
  have key : 0 ≤ (rdeg (h j) (v j)).toInt ∧ (rdeg (h j) (v j)).toInt ≤ 70 := by
    unfold rdeg
    split
    · decide
    · next z =>
      rw [Int32.le_iff_toInt_le, Int32.toInt_zero] at z
      rw [ti_div rfl rfl c (by omega)]
      refine ⟨Int.ediv_nonneg c (by omega), ?_⟩
      exact Int.ediv_le_of_le_mul (by omega) d
  obtain ⟨n, n1, n2⟩ := nI_of (show ¬ rdeg (h j) (v j) < 0 from fun z => by rw [Int32.lt_iff_toInt_lt, Int32.toInt_zero] at z; omega)
  have e : bx (nI n) = n := nI_clamp n1
  rw [n2, e]
  have k2 := key.2
  rw [n2, nI_toInt n1] at k2
  exact ⟨rfl, by omega⟩
