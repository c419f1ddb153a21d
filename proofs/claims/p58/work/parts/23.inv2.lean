/-! sums, and the whole invariant -/
theorem e_out (h u : Int32) : h - u - h = -u := by
  rw [Int32.sub_eq_add_neg, Int32.sub_eq_add_neg, Int32.add_comm h (-u), Int32.add_assoc, Int32.add_right_neg, Int32.add_zero]
theorem e_in (h u : Int32) : h + u - h = u := by
  rw [Int32.add_comm h u, Int32.add_sub_cancel]
theorem e_cl (S u x : Int32) : S + -u + (x + u) = S + x := by
  rw [Int32.add_comm x u, ← Int32.add_assoc, Int32.add_assoc S (-u) u, Int32.add_left_neg, Int32.add_zero]
theorem e_rc (S q r : Int32) : S + q + r = S + r + q := by
  rw [Int32.add_assoc, Int32.add_comm q r, ← Int32.add_assoc]
theorem e_nn (S u : Int32) : S + -u + u = S := by
  rw [Int32.add_assoc, Int32.add_left_neg, Int32.add_zero]
theorem m_updN {f : Nat → Int32} {k j : Nat} {x : Int32} (h : ¬ j = k) : upd f k x j = f j := if_neg h
theorem sumA_ge {h : Nat → Int32} {k : Nat} {x : Int32} : ∀ {N : Nat}, N ≤ k → sumA (upd h k x) N = sumA h N
  | 0, _ => rfl
  | N + 1, hk => by
    simp only [sumA]
    rw [sumA_ge (show N ≤ k by omega), m_updN (by omega)]
theorem sumA_upd {h : Nat → Int32} {k : Nat} {x : Int32} : ∀ {N : Nat}, k < N → sumA (upd h k x) N = sumA h N + (x - h k)
  | N + 1, hk => by
    simp only [sumA]
    rcases Nat.lt_or_ge k N with z | z
    · rw [sumA_upd z, m_updN (by omega), e_rc]
    · have e : k = N := by omega
      subst e
      rw [sumA_ge (Nat.le_refl _), m_updS, Int32.add_assoc, m_can]
def Inv (n : Nat) (σ : St) : Prop := Ok σ ∧ WtA (vB σ) (hB σ) ∧ (∀ j, j < 5 → nB σ ≤ j → vB σ j = 0 ∧ hB σ j = 0 ∧ mB σ j = 0) ∧ (∀ j, j < 6 → 0 ≤ (qD σ j).toInt ∧ (qD σ j).toInt ≤ (n : Int) ∧ (nD σ ≤ j → qD σ j = 0)) ∧ (∀ j, j < nE σ → lE σ j = -1 ∨ 0 < (lE σ j).toInt) ∧ sumA (vB σ) (nB σ) + rT σ = aT σ ∧ sumA (hB σ) (nB σ) + xT σ = hT σ
theorem Inv.mono {n m : Nat} {σ : St} (h : Inv n σ) (hm : n ≤ m) : Inv m σ :=
  ⟨h.1, h.2.1, h.2.2.1, fun j hj => ⟨(h.2.2.2.1 j hj).1, by have := (h.2.2.2.1 j hj).2.1; omega, (h.2.2.2.1 j hj).2.2⟩, h.2.2.2.2⟩
theorem inv_lose1 {n k : Nat} {σ : St} (h : Inv n σ) (hk : k < nB σ) : Inv n (lose1 k σ) := by
  have hN := h.1.1
  unfold lose1
  split
  · refine ⟨h.1, ?_, ?_, h.2.2.2.1, h.2.2.2.2.1, h.2.2.2.2.2.1, ?_⟩
    · have w := wtA_upd (k := k) h.2.1 (wt_lose (h.2.1 k (by omega))).1
      rwa [upd_self] at w
    · intro j h5 hj
      show vB σ j = 0 ∧ upd (hB σ) k _ j = 0 ∧ mB σ j = 0
      rw [m_updN (show ¬ j = k from fun e => by subst e; exact absurd hk (Nat.not_lt.mpr hj))]
      exact h.2.2.1 j h5 hj
    · show sumA (upd (hB σ) k _) (nB σ) + (xT σ + _) = hT σ
      rw [sumA_upd hk, e_out, e_cl]
      exact h.2.2.2.2.2.2
  · exact h
theorem inv_loseN {n : Nat} {σ : St} (h : Inv n σ) : ∀ k, k ≤ nB σ → Inv n (loseN σ k)
  | 0, _ => h
  | k + 1, hk => inv_lose1 (inv_loseN h k (by omega)) (by rw [loseN_nB]; omega)
theorem inv_losS {n : Nat} {σ : St} (h : Inv n σ) : Inv n (losS σ) := inv_loseN h _ (Nat.le_refl _)
theorem drq_i {x : Int32} (h : 0 < x.toInt) : 0 ≤ (drq x).toInt ∧ (drq x).toInt ≤ x.toInt := by
  unfold drq
  split
  · exact ⟨by omega, by omega⟩
  · next z =>
    rw [Int32.lt_iff_toInt_lt, show (3 : Int32).toInt = 3 from by decide] at z
    rw [show (3 : Int32).toInt = 3 from by decide]
    omega
theorem inv_drain1 {n k : Nat} {σ : St} (h : Inv n σ) (hk : k < nB σ) : Inv n (drain1 k σ) := by
  have hN := h.1.1
  unfold drain1
  split
  · next w =>
    split
    · have w2 := ti_wet.mp w
      obtain ⟨q0, q1⟩ := drq_i w2
      obtain ⟨-, w3, -, -⟩ := wt_part (h.2.1 k (by omega)) w2 q0 q1
      rw [show heatOf (vB σ) (hB σ) k (drq (vB σ k)) = hB σ k * drq (vB σ k) / vB σ k from if_pos w]
      refine ⟨h.1, wtA_upd h.2.1 w3, ?_, h.2.2.2.1, h.2.2.2.2.1, ?_, ?_⟩
      · intro j h5 hj
        show upd (vB σ) k _ j = 0 ∧ upd (hB σ) k _ j = 0 ∧ mB σ j = 0
        have hjk : ¬ j = k := fun e => by subst e; exact absurd hk (Nat.not_lt.mpr hj)
        rw [m_updN hjk, m_updN hjk]
        exact h.2.2.1 j h5 hj
      · show sumA (upd (vB σ) k _) (nB σ) + (rT σ + _) = aT σ
        rw [sumA_upd hk, e_out, e_cl]
        exact h.2.2.2.2.2.1
      · show sumA (upd (hB σ) k _) (nB σ) + (xT σ + _) = hT σ
        rw [sumA_upd hk, e_out, e_cl]
        exact h.2.2.2.2.2.2
    · exact h
  · exact h
theorem inv_drainN {n : Nat} {σ : St} (h : Inv n σ) : ∀ k, k ≤ nB σ → Inv n (drainN σ k)
  | 0, _ => h
  | k + 1, hk => inv_drain1 (inv_drainN h k (by omega)) (by rw [drainN_nB]; omega)
theorem inv_draS {n : Nat} {σ : St} (h : Inv n σ) : Inv n (draS σ) := inv_drainN h _ (Nat.le_refl _)
/-- the units that are shared -/
theorem units_i {v h me : Nat → Int32} (w : WtA v h) {N a b : Nat} (hN : N ≤ 5) (hO : hotO v h me N = some a) (hC : colO v h me N = some b) : 0 ≤ (units v h a b).toInt ∧ (units v h a b).toInt ≤ (h a).toInt ∧ (h b).toInt + (units v h a b).toInt ≤ 70 * (v b).toInt := by
  have la := hotO_lt hO
  have lb := colO_lt hC
  have wa := ti_wet.mp (hotO_wet hO)
  have wb := ti_wet.mp (colO_wet hC)
  have hD := hotO_max w.bd hN hO b lb (colO_me hC) (colO_wet hC)
  obtain ⟨a1, a2, a3, a4⟩ := w a (by omega)
  obtain ⟨b1, b2, b3, b4⟩ := w b (by omega)
  have e1 := w.bd.diff (show a < 5 by omega) (show b < 5 by omega)
  have e2 : (v a + v b).toInt = (v a).toInt + (v b).toInt := ti_add rfl rfl (by omega) (by omega)
  have e3 : ((h a * v b - h b * v a) / (v a + v b)).toInt = ((h a).toInt * (v b).toInt - (h b).toInt * (v a).toInt) / ((v a).toInt + (v b).toInt) := ti_div e1 e2 (by omega) (by omega)
  have n0 : 0 ≤ ((h a).toInt * (v b).toInt - (h b).toInt * (v a).toInt) / ((v a).toInt + (v b).toInt) := Int.ediv_nonneg (by omega) (by omega)
  have key : 0 ≤ (units v h a b).toInt ∧ (units v h a b).toInt ≤ ((h a).toInt * (v b).toInt - (h b).toInt * (v a).toInt) / ((v a).toInt + (v b).toInt) := by
    unfold units
    rw [if_neg (wet_sum w.bd (by omega) (by omega) (hotO_wet hO))]
    split
    · rw [e3]; exact ⟨n0, Int.le_refl _⟩
    · next z =>
      rw [Int32.lt_iff_toInt_lt, e3, show (20 : Int32).toInt = 20 from by decide] at z
      rw [show (20 : Int32).toInt = 20 from by decide]
      exact ⟨by decide, by omega⟩
  exact ⟨key.1, share_i wa wb a3 b3 a4 b4 hD key.1 key.2⟩
theorem inv_shaS {n : Nat} {σ : St} (h : Inv n σ) : Inv n (shaS σ) := by
  have hN := h.1.1
  have key : WtA (vB σ) (shH (vB σ) (hB σ) (mB σ) (nB σ)) ∧ (∀ j, nB σ ≤ j → shH (vB σ) (hB σ) (mB σ) (nB σ) j = hB σ j) ∧ sumA (shH (vB σ) (hB σ) (mB σ) (nB σ)) (nB σ) = sumA (hB σ) (nB σ) := by
    unfold shH
    split
    · cases hO : hotO (vB σ) (hB σ) (mB σ) (nB σ) with
      | none => exact ⟨h.2.1, fun _ _ => rfl, rfl⟩
      | some a =>
        cases hC : colO (vB σ) (hB σ) (mB σ) (nB σ) with
        | none => exact ⟨h.2.1, fun _ _ => rfl, rfl⟩
        | some b =>
          have la := hotO_lt hO
          have lb := colO_lt hC
          obtain ⟨u0, u1, u2⟩ := units_i h.2.1 hN hO hC
          obtain ⟨a1, a2, a3, a4⟩ := h.2.1 a (by omega)
          obtain ⟨b1, b2, b3, b4⟩ := h.2.1 b (by omega)
          dsimp only
          generalize units (vB σ) (hB σ) a b = u at *
          have ea : (hB σ a - u).toInt = (hB σ a).toInt - u.toInt := ti_sub rfl rfl (by omega) (by omega)
          have w1 : WtA (vB σ) (upd (hB σ) a (hB σ a - u)) := by
            have w := wtA_upd (k := a) h.2.1 (show Wt (vB σ a) (hB σ a - u) from ⟨a1, a2, by rw [ea]; omega, by rw [ea]; omega⟩)
            rwa [upd_self] at w
          refine ⟨?_, ?_, ?_⟩
          · have w := wtA_upd (k := b) w1 (y := upd (hB σ) a (hB σ a - u) b + u) (show Wt (vB σ b) _ from ?_)
            · rwa [upd_self] at w
            · by_cases z : b = a
              · subst z
                rw [m_updS, Int32.sub_add_cancel]
                exact h.2.1 b (by omega)
              · rw [m_updN z]
                have eb : (hB σ b + u).toInt = (hB σ b).toInt + u.toInt := ti_add rfl rfl (by omega) (by omega)
                exact ⟨b1, b2, by rw [eb]; omega, by rw [eb]; omega⟩
          · intro j hj
            show upd (upd (hB σ) a _) b _ j = hB σ j
            rw [m_updN (show ¬ j = b by omega), m_updN (show ¬ j = a by omega)]
          · show sumA (upd (upd (hB σ) a _) b _) (nB σ) = _
            rw [sumA_upd lb, sumA_upd la, e_in, e_out, e_nn]
    · exact ⟨h.2.1, fun _ _ => rfl, rfl⟩
  refine ⟨h.1, key.1, ?_, h.2.2.2.1, h.2.2.2.2.1, h.2.2.2.2.2.1, ?_⟩
  · intro j h5 hj
    show vB σ j = 0 ∧ shH (vB σ) (hB σ) (mB σ) (nB σ) j = 0 ∧ mB σ j = 0
    rw [key.2.1 j hj]
    exact h.2.2.1 j h5 hj
  · show sumA (shH (vB σ) (hB σ) (mB σ) (nB σ)) (nB σ) + xT σ = hT σ
    rw [key.2.2]
    exact h.2.2.2.2.2.2
theorem ev_psh {E : Nat} {el : Nat → Int32} {q : Int32} (h : ∀ j, j < E → el j = -1 ∨ 0 < (el j).toInt) (hq : q = -1 ∨ 0 < q.toInt) : ∀ j, j < evc E → psh el q j = -1 ∨ 0 < (psh el q j).toInt := by
  intro j hj
  unfold psh
  split
  · exact hq
  · refine h (j - 1) ?_
    unfold evc at hj
    split at hj <;> omega
theorem inv_ntS {n : Nat} {σ : St} (h : Inv n σ) {c x q : Int32} (hc : vp_nar .char c = c) (hq : q = -1 ∨ 0 < q.toInt) : Inv n (ntS c x q σ) :=
  ⟨ok_ntS h.1 hc x q, h.2.1, h.2.2.1, h.2.2.2.1, ev_psh h.2.2.2.2.1 hq, h.2.2.2.2.2⟩
theorem upd0 {f : Nat → Int32} {k j : Nat} (h : f j = 0) : upd f k 0 j = 0 := by
  unfold upd
  split
  · rfl
  · exact h
theorem inv_leavS {n : Nat} {σ : St} (h : Inv n σ) (k : Nat) : Inv n (leavS k σ) :=
  ⟨ok_leavS h.1 k, h.2.1, fun j h5 hj => ⟨(h.2.2.1 j h5 hj).1, (h.2.2.1 j h5 hj).2.1, upd0 (h.2.2.1 j h5 hj).2.2⟩, h.2.2.2.1, ev_psh h.2.2.2.2.1 (Or.inl rfl), h.2.2.2.2.2⟩
theorem inv_defect1 {n : Nat} {σ : St} (h : Inv n σ) (k : Nat) : Inv n (defect1 k σ) := by
  unfold defect1
  split
  · exact h
  · split
    · split
      · exact h
      · exact inv_leavS h k
    · exact inv_leavS h k
theorem inv_defectN {n : Nat} {σ : St} (h : Inv n σ) : ∀ k, Inv n (defectN σ k)
  | 0 => h
  | k + 1 => inv_defect1 (inv_defectN h k) k
theorem inv_incT {n : Nat} {σ : St} (h : Inv n σ) : Inv n (incT σ) := h
theorem obsQ_c {p : Nat → Bool} {dq dw : Nat → Int32} : ∀ (k j : Nat), obsQ p dq dw k j = dq j ∨ (j < k ∧ obsQ p dq dw k j = dq j + 1)
  | 0, _ => Or.inl rfl
  | k + 1, j => by
    have ih := obsQ_c (p := p) (dq := dq) (dw := dw) k j
    have up : obsQ p dq dw k j = dq j ∨ (j < k + 1 ∧ obsQ p dq dw k j = dq j + 1) := ih.imp id (fun z => ⟨by omega, z.2⟩)
    simp only [obsQ]
    split
    · exact up
    · split
      · exact up
      · by_cases e : j = k
        · subst e
          rcases ih with z | z
          · rw [m_updS, z]; exact Or.inr ⟨by omega, rfl⟩
          · omega
        · rw [m_updN e]; exact up
theorem inv_obsS {n : Nat} {σ : St} (h : Inv n σ) (hn : n + 1 < 2147483648) : Inv (n + 1) (obsS σ) := by
  refine ⟨ok_obsS h.1, h.2.1, h.2.2.1, ?_, h.2.2.2.2⟩
  intro j hj
  show 0 ≤ (obsQ (plS σ) (qD σ) (wD σ) (nD σ) j).toInt ∧ (obsQ (plS σ) (qD σ) (wD σ) (nD σ) j).toInt ≤ ((n + 1 : Nat) : Int) ∧ (nD σ ≤ j → obsQ (plS σ) (qD σ) (wD σ) (nD σ) j = 0)
  obtain ⟨a, b, c⟩ := h.2.2.2.1 j hj
  rcases obsQ_c (p := plS σ) (dq := qD σ) (dw := wD σ) (nD σ) j with z | ⟨z1, z2⟩
  · rw [z]; exact ⟨a, by omega, c⟩
  · have e : (qD σ j + 1).toInt = (qD σ j).toInt + 1 := ti_add rfl (by decide) (by omega) (by omega)
    rw [z2, e]
    exact ⟨by omega, by omega, fun q => by omega⟩
theorem inv_tickS {n : Nat} {σ : St} (h : Inv n σ) (hn : n + 1 < 2147483648) : Inv (n + 1) (tickS σ) := inv_obsS (inv_incT (inv_defectN (inv_shaS (inv_draS (inv_losS h))) _)) hn
theorem inv_tickN {n : Nat} {σ : St} (h : Inv n σ) : ∀ k, n + k < 2147483648 → Inv (n + k) (tickN σ k)
  | 0, _ => h
  | k + 1, hk => inv_tickS (inv_tickN h k (by omega)) (by omega)
theorem Inv.bd {n : Nat} {σ : St} (h : Inv n σ) : Bd (vB σ) (hB σ) := h.2.1.bd
theorem Inv.mid {n : Nat} {σ : St} (h : Inv n σ) : Bd (vB (draS (losS σ))) (hB (draS (losS σ))) := (inv_draS (inv_losS h)).bd
theorem Inv.mids {n : Nat} {σ : St} (h : Inv n σ) {K : Nat} (hK : n + K < 2147483648) : ∀ k, k < K → Bd (vB (draS (losS (tickN σ k)))) (hB (draS (losS (tickN σ k)))) := fun k hk => (inv_tickN h k (by omega)).mid
/-- the other changes -/
theorem ok_plcS {σ : St} (h : Ok σ) (h5 : nB σ < 5) : Ok (plcS σ) := ⟨h5, h.2.1, h.2.2.1, h.2.2.2.1, bzN_upd h.2.2.2.2.1 rfl, h.2.2.2.2.2.1, h.2.2.2.2.2.2⟩
theorem inv_plcS {n : Nat} {σ : St} (h : Inv n σ) (h5 : nB σ < 5) : Inv n (plcS σ) := by
  obtain ⟨z1, z2, z3⟩ := h.2.2.1 (nB σ) h5 (Nat.le_refl _)
  refine ⟨ok_plcS h.1 h5, h.2.1, fun j hj hN => h.2.2.1 j hj (Nat.le_of_succ_le hN), h.2.2.2.1, h.2.2.2.2.1, ?_, ?_⟩
  · show sumA (vB σ) (nB σ) + vB σ (nB σ) + rT σ = aT σ
    rw [z1, Int32.add_zero]; exact h.2.2.2.2.2.1
  · show sumA (hB σ) (nB σ) + hB σ (nB σ) + xT σ = hT σ
    rw [z2, Int32.add_zero]; exact h.2.2.2.2.2.2
theorem inv_fillU {n j : Nat} {q u : Int32} {σ : St} (h : Inv n σ) (hj : j < nB σ) (hw : Wt (vB σ j + q) (hB σ j + u)) : Inv n (fillU j q u σ) := by
  refine ⟨h.1, wtA_upd h.2.1 hw, ?_, h.2.2.2.1, h.2.2.2.2.1, ?_, ?_⟩
  · intro i h5 hi
    show upd (vB σ) j _ i = 0 ∧ upd (hB σ) j _ i = 0 ∧ mB σ i = 0
    have hij : ¬ i = j := fun e => by subst e; exact absurd hj (Nat.not_lt.mpr hi)
    rw [m_updN hij, m_updN hij]
    exact h.2.2.1 i h5 hi
  · show sumA (upd (vB σ) j _) (nB σ) + rT σ = aT σ + q
    rw [sumA_upd hj, e_in, e_rc, h.2.2.2.2.2.1]
  · show sumA (upd (hB σ) j _) (nB σ) + xT σ = hT σ + u
    rw [sumA_upd hj, e_in, e_rc, h.2.2.2.2.2.2]
theorem inv_filS {n j : Nat} {q u : Int32} {σ : St} (h : Inv n σ) (hn : n + 1 < 2147483648) (hj : j < nB σ) (hq : 0 < q.toInt) (hw : Wt (vB σ j + q) (hB σ j + u)) : Inv (n + 1) (filS j q u σ) :=
  inv_obsS (inv_ntS (inv_fillU h hj hw) rfl (Or.inr hq)) hn
theorem inv_pluS {n j : Nat} {x : Int32} {σ : St} (h : Inv n σ) (hx : vp_nar .boolean x = x) : Inv n (pluS j x σ) :=
  ⟨⟨h.1.1, h.1.2.1, h.1.2.2.1, h.1.2.2.2.1, bzN_upd h.1.2.2.2.2.1 hx, h.1.2.2.2.2.2⟩, h.2⟩
theorem inv_movS {n i j : Nat} {q u : Int32} {σ : St} (h : Inv n σ) (hi : i < nB σ) (hj : j < nB σ) (hij : ¬ i = j) (h1 : Wt (vB σ i - q) (hB σ i - u)) (h2 : Wt (vB σ j + q) (hB σ j + u)) : Inv n (movS i j q u σ) := by
  have hji : ¬ j = i := fun e => hij e.symm
  refine ⟨h.1, ?_, ?_, h.2.2.2.1, h.2.2.2.2.1, ?_, ?_⟩
  · refine wtA_upd (wtA_upd h.2.1 h1) ?_
    rw [m_updN hji, m_updN hji]
    exact h2
  · intro k h5 hk
    show upd (upd (vB σ) i _) j _ k = 0 ∧ upd (upd (hB σ) i _) j _ k = 0 ∧ mB σ k = 0
    have e1 : ¬ k = i := fun e => by subst e; exact absurd hi (Nat.not_lt.mpr hk)
    have e2 : ¬ k = j := fun e => by subst e; exact absurd hj (Nat.not_lt.mpr hk)
    rw [m_updN e2, m_updN e1, m_updN e2, m_updN e1]
    exact h.2.2.1 k h5 hk
  · show sumA (upd (upd (vB σ) i _) j _) (nB σ) + rT σ = aT σ
    rw [sumA_upd hj, sumA_upd hi, e_in, e_out, e_nn]
    exact h.2.2.2.2.2.1
  · show sumA (upd (upd (hB σ) i _) j _) (nB σ) + xT σ = hT σ
    rw [sumA_upd hj, sumA_upd hi, e_in, e_out, e_nn]
    exact h.2.2.2.2.2.2
theorem inv_traS {n i j : Nat} {q : Int32} {σ : St} (h : Inv n σ) (hn : n + 1 < 2147483648) (hi : i < nB σ) (hj : j < nB σ) (hij : ¬ i = j) (q0 : 0 < q.toInt) (q1 : q.toInt ≤ (vB σ i).toInt) (q2 : (vB σ j).toInt + q.toInt ≤ 100) : Inv (n + 1) (traS i j q σ) := by
  have hN := h.1.1
  have hw : 0 < (vB σ i).toInt := by omega
  obtain ⟨-, p2, p3, p4⟩ := wt_part (h.2.1 i (by omega)) hw (by omega) q1
  have e : heatOf (vB σ) (hB σ) i q = hB σ i * q / vB σ i := if_pos (ti_wet.mpr hw)
  unfold traS
  rw [e]
  exact inv_obsS (inv_ntS (inv_movS h hi hj hij p2 (wt_into (h.2.1 j (by omega)) (by omega) q2 p3 p4)) rfl (Or.inr q0)) hn
theorem ok_dukS {b t q : Int32} {σ : St} (h : Ok σ) (h6 : nD σ < 6) (hb : dOK b) : Ok (dukS b t q σ) := by
  refine ⟨h.1, h6, h.2.2.1, ?_, h.2.2.2.2.1, h.2.2.2.2.2.1, bzN_upd h.2.2.2.2.2.2.1 (by split <;> rfl), h.2.2.2.2.2.2.2⟩
  intro j hj
  show dOK (upd (bD σ) (nD σ) b j)
  unfold upd
  split
  · exact hb
  · exact h.2.2.2.1 j hj
theorem inv_dukS {n : Nat} {b t q : Int32} {σ : St} (h : Inv n σ) (h6 : nD σ < 6) (hb : dOK b) : Inv n (dukS b t q σ) :=
  ⟨ok_dukS h.1 h6 hb, h.2.1, h.2.2.1, fun j hj => ⟨(h.2.2.2.1 j hj).1, (h.2.2.2.1 j hj).2.1, fun z => (h.2.2.2.1 j hj).2.2 (Nat.le_of_succ_le z)⟩, h.2.2.2.2⟩
theorem inv_admS {n j : Nat} {σ : St} (h : Inv n σ) (hj : j < nB σ) : Inv n (admS j σ) := by
  refine ⟨⟨h.1.1, h.1.2.1, evc_le _, h.1.2.2.2.1, h.1.2.2.2.2.1, bzN_upd h.1.2.2.2.2.2.1 rfl, h.1.2.2.2.2.2.2.1, czN_psh h.1.2.2.2.2.2.2.2 rfl⟩, h.2.1, ?_, h.2.2.2.1, ev_psh h.2.2.2.2.1 (Or.inl rfl), h.2.2.2.2.2⟩
  intro i h5 hi
  show vB σ i = 0 ∧ hB σ i = 0 ∧ upd (mB σ) j 1 i = 0
  have hij : ¬ i = j := fun e => by subst e; exact absurd hj (Nat.not_lt.mpr hi)
  rw [m_updN hij]
  exact h.2.2.1 i h5 hi
theorem inv_disS {n : Nat} {σ : St} (h : Inv n σ) (j : Nat) : Inv n (disS j σ) :=
  ⟨⟨h.1.1, h.1.2.1, evc_le _, h.1.2.2.2.1, h.1.2.2.2.2.1, bzN_upd h.1.2.2.2.2.2.1 rfl, h.1.2.2.2.2.2.2.1, czN_psh h.1.2.2.2.2.2.2.2 rfl⟩, h.2.1, fun i h5 hi => ⟨(h.2.2.1 i h5 hi).1, (h.2.2.1 i h5 hi).2.1, upd0 (h.2.2.1 i h5 hi).2.2⟩, h.2.2.2.1, ev_psh h.2.2.2.2.1 (Or.inl rfl), h.2.2.2.2.2⟩
/-- the beginning -/
def st0 : St := ((0, fun _ => 0, fun _ => 0, fun _ => 0, fun _ => 0), (0, fun _ => 0, fun _ => 0, fun _ => 0, fun _ => 0, fun _ => 0), (0, fun _ => 0, fun _ => 0, fun _ => 0), (0, 0, 0, 0, 0, 0))
theorem inv_st0 : Inv 0 st0 := by
  have d0 : dOK 0 := ⟨by decide, by decide⟩
  have z0 : (0 : Int32).toInt = 0 := by decide
  have zb : vp_nar .boolean 0 = 0 := by rfl
  have zc : vp_nar .char 0 = 0 := by rfl
  have w0 : Wt 0 0 := ⟨by decide, by decide, by decide, by decide⟩
  refine ⟨⟨by decide, by decide, by decide, fun _ _ => d0, fun _ _ => zb, fun _ _ => zb, fun _ _ => zb, fun _ _ => zc⟩, fun _ _ => w0, fun _ _ _ => ⟨rfl, rfl, rfl⟩, fun _ _ => ⟨Int.le_of_eq z0.symm, Int.le_of_eq z0, fun _ => rfl⟩, ?_, rfl, rfl⟩
  intro j hj
  exact absurd hj (Nat.not_lt_zero j)
