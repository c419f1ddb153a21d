/-! for the reference's tick -/
theorem m_sac (x y : Int32) : x + 1 - y = x - y + 1 := by
  rw [Int32.sub_eq_add_neg, Int32.sub_eq_add_neg, Int32.add_assoc, Int32.add_comm 1, ← Int32.add_assoc]
theorem m_can (x y : Int32) : y + (x - y) = x := by
  rw [Int32.add_comm, Int32.sub_add_cancel]
theorem m_adds (a b c : Int32) : (a - c) + (b - a) = b - c := by
  rw [Int32.sub_eq_add_neg, Int32.sub_eq_add_neg, Int32.sub_eq_add_neg, Int32.add_comm a, Int32.add_assoc, Int32.add_comm b, ← Int32.add_assoc a, Int32.add_right_neg, Int32.zero_add, Int32.add_comm]
theorem m_12 {x : Int32} : ¬ x ≤ 1 ↔ 2 ≤ x := by
  rw [Int32.le_iff_toInt_le, Int32.le_iff_toInt_le, show (1 : Int32).toInt = 1 from by decide, show (2 : Int32).toInt = 2 from by decide]
  omega
theorem lose1_dT (k : Nat) (σ : St) : dT (lose1 k σ) = dT σ := by unfold lose1; split <;> rfl
theorem loseN_dT (σ : St) : ∀ k, dT (loseN σ k) = dT σ
  | 0 => rfl
  | k + 1 => (lose1_dT k _).trans (loseN_dT σ k)
theorem drain1_dT (k : Nat) (σ : St) : dT (drain1 k σ) = dT σ := by unfold drain1; split <;> first | rfl | (split <;> rfl)
theorem drainN_dT (σ : St) : ∀ k, dT (drainN σ k) = dT σ
  | 0 => rfl
  | k + 1 => (drain1_dT k _).trans (drainN_dT σ k)
theorem t3_dT (σ : St) : dT (shaS (draS (losS σ))) = dT σ := (drainN_dT _ _).trans (loseN_dT σ _)
theorem vp_narZ {x : Int32} (h : vp_nar .boolean x = x) : x = 0 ∨ x = 1 := by
  have h2 : x &&& 1 = x := h
  obtain ⟨j, hj, e⟩ := pk_andE x (m := 1) 1 rfl
  rw [h2] at e
  subst e
  rcases (show j = 0 ∨ j = 1 by omega) with rfl | rfl
  · exact Or.inl rfl
  · exact Or.inr rfl
theorem Ok.m01 {σ : St} (h : Ok σ) : ∀ j, j < 5 → mB σ j = 0 ∨ mB σ j = 1 := fun j hj => vp_narZ (h.2.2.2.2.2.1 j hj)
theorem Ok.w01 {σ : St} (h : Ok σ) : ∀ j, j < 6 → wD σ j = 0 ∨ wD σ j = 1 := fun j hj => vp_narZ (h.2.2.2.2.2.2.1 j hj)
theorem hotO_wet {v h me : Nat → Int32} : ∀ {k j : Nat}, hotO v h me k = some j → wet v j = true
  | 0, j, q => by simp [hotO] at q
  | k + 1, j, q => by
    simp only [hotO] at q
    split at q
    · exact hotO_wet q
    · split at q
      · next w =>
        split at q
        · cases q; exact w
        · next j' hj =>
          split at q
          · cases q; exact w
          · cases q; exact hotO_wet hj
      · exact hotO_wet q
theorem colO_wet {v h me : Nat → Int32} : ∀ {k j : Nat}, colO v h me k = some j → wet v j = true
  | 0, j, q => by simp [colO] at q
  | k + 1, j, q => by
    simp only [colO] at q
    split at q
    · exact colO_wet q
    · split at q
      · next w =>
        split at q
        · cases q; exact w
        · next j' hj =>
          split at q
          · cases q; exact w
          · cases q; exact colO_wet hj
      · exact colO_wet q
theorem wet_sum {v h : Nat → Int32} (H : Bd v h) {a b : Nat} (ha : a < 5) (hb : b < 5) (w : wet v a = true) : ¬ v a + v b = 0 := by
  intro z
  have h1 := m_wet w
  obtain ⟨⟨a1, a2⟩, -⟩ := H a ha
  obtain ⟨⟨b1, b2⟩, -⟩ := H b hb
  have e : (v a + v b).toInt = (v a).toInt + (v b).toInt := by
    rw [Int32.toInt_add]
    exact Int.bmod_eq_of_le (by omega) (by omega)
  rw [z, Int32.toInt_zero] at e
  rw [Int32.le_iff_toInt_le, Int32.toInt_zero] at h1
  omega
/-- the row of a State but the defections -/
def encD (σ : St) (d : Int32) : Nat → Int32 := encT (nB σ) (vB σ) (hB σ) (pB σ) (mB σ) (nD σ) (bD σ) (lD σ) (uD σ) (qD σ) (wD σ) (nE σ) (kE σ) (bE σ) (lE σ) (tT σ) d (aT σ) (rT σ) (hT σ) (xT σ)
theorem encD_mk (N M E : Nat) (v h p m b l u q w ek eb el : Nat → Int32) (t1 t2 t3 t4 t5 t6 d : Int32) : encD ((N, v, h, p, m), (M, b, l, u, q, w), (E, ek, eb, el), (t1, t2, t3, t4, t5, t6)) d = encT N v h p m M b l u q w E ek eb el t1 d t3 t4 t5 t6 := rfl
theorem m_iteP {P : Prop} {d : Decidable P} : (if P then (1 : Int32) else 0) = 1 ↔ P := by
  by_cases h : P
  · rw [if_pos h]; exact ⟨fun _ => h, fun _ => rfl⟩
  · rw [if_neg h]; exact ⟨fun z => absurd z (by decide), fun z => absurd z h⟩
theorem drain1_m {σ : St} {k : Nat} (w : wet (vB σ) k = true) (z : pB σ k = 0) : drain1 k σ = ((nB σ, upd (vB σ) k (vB σ k - drq (vB σ k)), upd (hB σ) k (hB σ k - hB σ k * drq (vB σ k) / vB σ k), pB σ, mB σ), (nD σ, bD σ, lD σ, uD σ, qD σ, wD σ), (nE σ, kE σ, bE σ, lE σ), (tT σ, dT σ, aT σ, rT σ + drq (vB σ k), hT σ, xT σ + hB σ k * drq (vB σ k) / vB σ k)) := by
  unfold drain1
  rw [if_pos w, if_pos z]
  unfold heatOf
  rw [if_pos w]
