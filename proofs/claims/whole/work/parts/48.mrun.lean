/-! the faults' numbers; commands in the reference -/
theorem filF_v (N : Nat) (v : Nat → Int32) (b t q : Int32) : filF N v b t q = 0 ∨ filF N v b t q = 1 ∨ filF N v b t q = 2 ∨ filF N v b t q = 5 := by
  unfold filF
  (repeat' split) <;> simp
theorem plgF_v (N : Nat) (b : Int32) : plgF N b = 0 ∨ plgF N b = 1 := by
  unfold plgF
  (repeat' split) <;> simp
theorem traF_v (N : Nat) (v : Nat → Int32) (b t q : Int32) : traF N v b t q = 0 ∨ traF N v b t q = 1 ∨ traF N v b t q = 2 ∨ traF N v b t q = 4 ∨ traF N v b t q = 5 := by
  unfold traF
  (repeat' split) <;> simp
theorem dukF_v (N M : Nat) (b t q : Int32) : dukF N M b t q = 0 ∨ dukF N M b t q = 1 ∨ dukF N M b t q = 2 ∨ dukF N M b t q = 3 := by
  unfold dukF
  (repeat' split) <;> simp
theorem admF_v (N : Nat) (v h m : Nat → Int32) (b : Int32) : admF N v h m b = 0 ∨ admF N v h m b = 1 ∨ admF N v h m b = 3 ∨ admF N v h m b = 5 := by
  unfold admF
  (repeat' split) <;> simp
theorem disF_v (N : Nat) (m : Nat → Int32) (b : Int32) : disF N m b = 0 ∨ disF N m b = 1 ∨ disF N m b = 3 := by
  unfold disF
  (repeat' split) <;> simp
theorem tikF_v (n : Int32) : tikF n = 0 ∨ tikF n = 2 := by
  unfold tikF
  (repeat' split) <;> simp
theorem if5_v (N : Nat) : (if N < 5 then (0 : Int32) else 3) = 0 ∨ (if N < 5 then (0 : Int32) else 3) = 3 := by
  split <;> simp
theorem inR_m1 {q lo hi : Int32} (hl : -1 < lo) (h : inR q lo hi = true) : ¬ q = -1 := fun z => by
  rw [z] at h
  exact (inR_iff.mp h).1 hl
theorem fltC_0 {τ : St} {a b c : Int32} : fltC τ 0 a b c = (if nB τ < 5 then (0 : Int32) else 3) := by
  unfold fltC
  rw [if_pos rfl]
theorem appC_0 {τ : St} {a b c : Int32} : appC τ 0 a b c = plcS τ := by
  unfold appC
  rw [if_pos rfl]
theorem fltC_1 {τ : St} {a b c : Int32} : fltC τ 1 a b c = filF (nB τ) (vB τ) a b c := by
  unfold fltC
  rw [if_neg (by decide), if_pos rfl]
theorem appC_1 {τ : St} {a b c : Int32} : appC τ 1 a b c = filS (bx a) c (c * (10 + 30 * b)) τ := by
  unfold appC
  rw [if_neg (by decide), if_pos rfl]
theorem fltC_2 {τ : St} {a b c : Int32} : fltC τ 2 a b c = plgF (nB τ) a := by
  unfold fltC
  rw [if_neg (by decide), if_neg (by decide), if_pos rfl]
theorem appC_2 {τ : St} {a b c : Int32} : appC τ 2 a b c = pluS (bx a) (if b = 1 then 1 else 0) τ := by
  unfold appC
  rw [if_neg (by decide), if_neg (by decide), if_pos rfl]
theorem fltC_3 {τ : St} {a b c : Int32} : fltC τ 3 a b c = traF (nB τ) (vB τ) a b c := by
  unfold fltC
  rw [if_neg (by decide), if_neg (by decide), if_neg (by decide), if_pos rfl]
theorem appC_3 {τ : St} {a b c : Int32} : appC τ 3 a b c = traS (bx a) (bx b) c τ := by
  unfold appC
  rw [if_neg (by decide), if_neg (by decide), if_neg (by decide), if_pos rfl]
theorem fltC_4 {τ : St} {a b c : Int32} : fltC τ 4 a b c = dukF (nB τ) (nD τ) a b c := by
  unfold fltC
  rw [if_neg (by decide), if_neg (by decide), if_neg (by decide), if_neg (by decide), if_pos rfl]
theorem appC_4 {τ : St} {a b c : Int32} : appC τ 4 a b c = dukS a b c τ := by
  unfold appC
  rw [if_neg (by decide), if_neg (by decide), if_neg (by decide), if_neg (by decide), if_pos rfl]
theorem fltC_5 {τ : St} {a b c : Int32} : fltC τ 5 a b c = admF (nB τ) (vB τ) (hB τ) (mB τ) a := by
  unfold fltC
  rw [if_neg (by decide), if_neg (by decide), if_neg (by decide), if_neg (by decide), if_neg (by decide), if_pos rfl]
theorem appC_5 {τ : St} {a b c : Int32} : appC τ 5 a b c = admS (bx a) τ := by
  unfold appC
  rw [if_neg (by decide), if_neg (by decide), if_neg (by decide), if_neg (by decide), if_neg (by decide), if_pos rfl]
theorem fltC_6 {τ : St} {a b c : Int32} : fltC τ 6 a b c = disF (nB τ) (mB τ) a := by
  unfold fltC
  rw [if_neg (by decide), if_neg (by decide), if_neg (by decide), if_neg (by decide), if_neg (by decide), if_neg (by decide), if_pos rfl]
theorem appC_6 {τ : St} {a b c : Int32} : appC τ 6 a b c = disS (bx a) τ := by
  unfold appC
  rw [if_neg (by decide), if_neg (by decide), if_neg (by decide), if_neg (by decide), if_neg (by decide), if_neg (by decide), if_pos rfl]
theorem fltC_7 {τ : St} {a b c : Int32} : fltC τ 7 a b c = tikF a := by
  unfold fltC
  rw [if_neg (by decide), if_neg (by decide), if_neg (by decide), if_neg (by decide), if_neg (by decide), if_neg (by decide), if_neg (by decide)]
theorem appC_7 {τ : St} {a b c : Int32} : appC τ 7 a b c = tickN τ (bx a) := by
  unfold appC
  rw [if_neg (by decide), if_neg (by decide), if_neg (by decide), if_neg (by decide), if_neg (by decide), if_neg (by decide), if_neg (by decide)]
set_option maxRecDepth 100000 in
set_option maxHeartbeats 1000000 in
theorem c_X8_does_ok (l : Launch) (G : va_G) (cy : Nat → ClassId) (am aS aBf aAs aSv aPa aOu aTx aCo K OM LN CM : Nat) (iS th ea fa : Int32) (σ : St) (x : Lx) (g : Nat → Int32) (i : Nat) (a b c k9 : Int32) (n9 : Nat) (hI : Inv n9 σ) (hn : n9 + 1000 < 2147483648) (hi : i < 60) (hM : MR g i k9 a b c) (hF : fltC σ k9 a b c = 0) : WC l yX8_does wsX8_does { frames := 6, cells := 0, slots := 0, locals := 136 } G (PB G cy [(am, .inr (12, [.ref aS, .ref aBf, .ref aAs, .ref aSv, .int iS, .ref aPa, .int (nI K), .int th, .ref aOu, .int (nI OM), .ref aTx, .int (nI LN), .int (nI x.1), .int (bI x.2), .int ea, .int fa, .ref aCo, .int (nI CM)])), (aS, .inl (cy 2, 89, .inl (encS σ))), (aCo, .inl (cy 2, 240, .inl g))]) [.ref am, .int (nI i)] [(am, .inr (12, [.ref aS, .ref aBf, .ref aAs, .ref aSv, .int iS, .ref aPa, .int (nI K), .int th, .ref aOu, .int (nI OM), .ref aTx, .int (nI LN), .int (nI x.1), .int (bI x.2), .int ea, .int fa, .ref aCo, .int (nI CM)])), (aS, .inl (cy 2, 89, .inl (encS σ))), (aCo, .inl (cy 2, 240, .inl g))] [(am, .inr (12, [.ref aS, .ref aBf, .ref aAs, .ref aSv, .int iS, .ref aPa, .int (nI K), .int th, .ref aOu, .int (nI OM), .ref aTx, .int (nI LN), .int (nI x.1), .int (bI x.2), .int ea, .int fa, .ref aCo, .int (nI CM)])), (aS, .inl (cy 2, 89, .inl (encS (appC σ k9 a b c)))), (aCo, .inl (cy 2, 240, .inl g))] none := by
  have ho := hI.1
  have hN0 := ho.1
  rcases hM with ⟨rfl, e0⟩ | ⟨rfl, e0, e1, e2, e3⟩ | ⟨rfl, e0, e1, e2⟩ | ⟨rfl, e0, e1, e2, e3⟩ | ⟨rfl, e0, e1, e2, e3⟩ | ⟨rfl, e0, e1⟩ | ⟨rfl, e0, e1⟩ | ⟨rfl, e0, e1⟩
  · have hF2 : (if nB σ < 5 then (0 : Int32) else 3) = 0 := fltC_0.symm.trans hF
    have h5 := if5_0 hF2
    obtain ⟨z1, z2, z3⟩ := hI.2.2.1 (nB σ) h5 (Nat.le_refl _)
    rw [appC_0]
    exact c_X8_does_bath_ok l G cy am aS aBf aAs aSv aPa aOu aTx aCo K OM LN CM iS th ea fa σ x g i a b c ho hi e0 z1 z2 z3 hF2
  · have hF2 : filF (nB σ) (vB σ) a b c = 0 := fltC_1.symm.trans hF
    obtain ⟨⟨q1, q2⟩, q3, q4, q5⟩ := filF_0 hN0 hF2
    rw [appC_1]
    exact c_X8_does_tap_ok l G cy am aS aBf aAs aSv aPa aOu aTx aCo K OM LN CM iS th ea fa σ x g i a b c ho hi e0 e1 e2 e3 q1 (inR_m1 (by decide) q4) hF2
  · have hF2 : plgF (nB σ) a = 0 := fltC_2.symm.trans hF
    obtain ⟨q1, q2⟩ := plgF_0 hN0 hF2
    by_cases h7 : b = 1
    · have e9 : appC σ 2 a b c = pluS (bx a) 1 σ := by rw [appC_2, if_pos h7]
      rw [e9]
      exact c_X8_does_plugI_ok l G cy am aS aBf aAs aSv aPa aOu aTx aCo K OM LN CM iS th ea fa σ x g i a b c ho hi e0 e1 e2 q1 q2 h7 hF2
    · have e9 : appC σ 2 a b c = pluS (bx a) 0 σ := by rw [appC_2, if_neg h7]
      rw [e9]
      exact c_X8_does_plugO_ok l G cy am aS aBf aAs aSv aPa aOu aTx aCo K OM LN CM iS th ea fa σ x g i a b c ho hi e0 e1 e2 q1 q2 h7 hF2
  · have hF2 : traF (nB σ) (vB σ) a b c = 0 := fltC_3.symm.trans hF
    obtain ⟨⟨q1, q2⟩, ⟨q3, q4⟩, q5, q6, q7, q8⟩ := traF_0 hN0 hF2
    have q9 : wet (vB σ) (bx a) = true := ti_wet.mpr (by have z1 := (inR_iff.mp q6).1; rw [Int32.lt_iff_toInt_lt, show (1 : Int32).toInt = 1 from by decide] at z1; rw [Int32.lt_iff_toInt_lt] at q7; omega)
    rw [appC_3]
    exact c_X8_does_pour_ok l G cy am aS aBf aAs aSv aPa aOu aTx aCo K OM LN CM iS th ea fa σ x g i a b c ho hi e0 e1 e2 e3 q1 (inR_m1 (by decide) q6) q9 hF2
  · have hF2 : dukF (nB σ) (nD σ) a b c = 0 := fltC_4.symm.trans hF
    obtain ⟨-, q3, -, -, -, q6⟩ := dukF_0 hN0 hF2
    rw [appC_4]
    exact c_X8_does_duck_ok l G cy am aS aBf aAs aSv aPa aOu aTx aCo K OM LN CM iS th ea fa σ x g i a b c ho hi e0 e1 e2 e3 q3 ((hI.2.2.2.1 (nD σ) q6).2.2 (Nat.le_refl _)) q6 hF2
  · have hF2 : admF (nB σ) (vB σ) (hB σ) (mB σ) a = 0 := fltC_5.symm.trans hF
    obtain ⟨⟨q1, q2⟩, -⟩ := admF_0 hN0 hF2
    rw [appC_5]
    exact c_X8_does_join_ok l G cy am aS aBf aAs aSv aPa aOu aTx aCo K OM LN CM iS th ea fa σ x g i a b c ho hi e0 e1 q1 hF2
  · have hF2 : disF (nB σ) (mB σ) a = 0 := fltC_6.symm.trans hF
    obtain ⟨⟨q1, q2⟩, -⟩ := disF_0 hN0 hF2
    rw [appC_6]
    exact c_X8_does_leave_ok l G cy am aS aBf aAs aSv aPa aOu aTx aCo K OM LN CM iS th ea fa σ x g i a b c ho hi e0 e1 q1 hF2
  · have hF2 : tikF a = 0 := fltC_7.symm.trans hF
    obtain ⟨q1, q2, q3⟩ := tikF_0 hF2
    have hF3 : tikF (nI (bx a)) = 0 := by rw [← q1]; exact hF2
    rw [appC_7]
    exact c_X8_does_tick_ok l G cy am aS aBf aAs aSv aPa aOu aTx aCo K OM LN CM iS th ea fa σ x g i a b c ho hi e0 e1 q1 (by omega) (hI.mids (by omega)) hF3
set_option maxRecDepth 100000 in
set_option maxHeartbeats 1000000 in
theorem c_X8_does_no (l : Launch) (G : va_G) (cy : Nat → ClassId) (am aS aBf aAs aSv aPa aOu aTx aCo K OM LN CM : Nat) (iS th ea fa : Int32) (σ : St) (x : Lx) (g : Nat → Int32) (i : Nat) (a b c k9 : Int32) (n9 : Nat) (hI : Inv n9 σ) (hn : n9 + 1000 < 2147483648) (hi : i < 60) (hM : MR g i k9 a b c) (hF : ¬ fltC σ k9 a b c = 0) : ∃ t9 : Int32, ¬ t9 ≤ 0 ∧ WC l yX8_does wsX8_does { frames := 6, cells := 0, slots := 0, locals := 136 } G (PB G cy [(am, .inr (12, [.ref aS, .ref aBf, .ref aAs, .ref aSv, .int iS, .ref aPa, .int (nI K), .int th, .ref aOu, .int (nI OM), .ref aTx, .int (nI LN), .int (nI x.1), .int (bI x.2), .int ea, .int fa, .ref aCo, .int (nI CM)])), (aS, .inl (cy 2, 89, .inl (encS σ))), (aCo, .inl (cy 2, 240, .inl g))]) [.ref am, .int (nI i)] [(am, .inr (12, [.ref aS, .ref aBf, .ref aAs, .ref aSv, .int iS, .ref aPa, .int (nI K), .int th, .ref aOu, .int (nI OM), .ref aTx, .int (nI LN), .int (nI x.1), .int (bI x.2), .int ea, .int fa, .ref aCo, .int (nI CM)])), (aS, .inl (cy 2, 89, .inl (encS σ))), (aCo, .inl (cy 2, 240, .inl g))] [(am, .inr (12, [.ref aS, .ref aBf, .ref aAs, .ref aSv, .int iS, .ref aPa, .int (nI K), .int t9, .ref aOu, .int (nI OM), .ref aTx, .int (nI LN), .int (nI x.1), .int (bI x.2), .int ea, .int fa, .ref aCo, .int (nI CM)])), (aS, .inl (cy 2, 89, .inl (encS σ))), (aCo, .inl (cy 2, 240, .inl g))] none := by
  have ho := hI.1
  have hN0 := ho.1
  rcases hM with ⟨rfl, e0⟩ | ⟨rfl, e0, e1, e2, e3⟩ | ⟨rfl, e0, e1, e2⟩ | ⟨rfl, e0, e1, e2, e3⟩ | ⟨rfl, e0, e1, e2, e3⟩ | ⟨rfl, e0, e1⟩ | ⟨rfl, e0, e1⟩ | ⟨rfl, e0, e1⟩
  · have hF2 : ¬ (if nB σ < 5 then (0 : Int32) else 3) = 0 := fun z => hF (fltC_0.trans z)
    exact ⟨1, by decide, c_X8_does_bath_no l G cy am aS aBf aAs aSv aPa aOu aTx aCo K OM LN CM iS th ea fa σ x g i a b c ho hi e0 hF2⟩
  · have hF2 : ¬ filF (nB σ) (vB σ) a b c = 0 := fun z => hF (fltC_1.trans z)
    exact ⟨mcT (filF (nB σ) (vB σ) a b c), (by rcases filF_v (nB σ) (vB σ) a b c with z | z | z | z; exact absurd z hF2; all_goals (rw [z]; decide)), c_X8_does_tap_no l G cy am aS aBf aAs aSv aPa aOu aTx aCo K OM LN CM iS th ea fa σ x g i a b c ho hi e0 e1 e2 e3 hF2⟩
  · have hF2 : ¬ plgF (nB σ) a = 0 := fun z => hF (fltC_2.trans z)
    by_cases h7 : b = 1
    · exact ⟨plgF (nB σ) a, (by rcases plgF_v (nB σ) a with z | z; exact absurd z hF2; all_goals (rw [z]; decide)), c_X8_does_plugI_no l G cy am aS aBf aAs aSv aPa aOu aTx aCo K OM LN CM iS th ea fa σ x g i a b c ho hi e0 e1 e2 h7 hF2⟩
    · exact ⟨plgF (nB σ) a, (by rcases plgF_v (nB σ) a with z | z; exact absurd z hF2; all_goals (rw [z]; decide)), c_X8_does_plugO_no l G cy am aS aBf aAs aSv aPa aOu aTx aCo K OM LN CM iS th ea fa σ x g i a b c ho hi e0 e1 e2 h7 hF2⟩
  · have hF2 : ¬ traF (nB σ) (vB σ) a b c = 0 := fun z => hF (fltC_3.trans z)
    exact ⟨mcP (traF (nB σ) (vB σ) a b c), (by rcases traF_v (nB σ) (vB σ) a b c with z | z | z | z | z; exact absurd z hF2; all_goals (rw [z]; decide)), c_X8_does_pour_no l G cy am aS aBf aAs aSv aPa aOu aTx aCo K OM LN CM iS th ea fa σ x g i a b c ho hi e0 e1 e2 e3 hF2⟩
  · have hF2 : ¬ dukF (nB σ) (nD σ) a b c = 0 := fun z => hF (fltC_4.trans z)
    exact ⟨dukF (nB σ) (nD σ) a b c, (by rcases dukF_v (nB σ) (nD σ) a b c with z | z | z | z; exact absurd z hF2; all_goals (rw [z]; decide)), c_X8_does_duck_no l G cy am aS aBf aAs aSv aPa aOu aTx aCo K OM LN CM iS th ea fa σ x g i a b c ho hi e0 e1 e2 e3 hF2⟩
  · have hF2 : ¬ admF (nB σ) (vB σ) (hB σ) (mB σ) a = 0 := fun z => hF (fltC_5.trans z)
    exact ⟨mcJ (admF (nB σ) (vB σ) (hB σ) (mB σ) a), (by rcases admF_v (nB σ) (vB σ) (hB σ) (mB σ) a with z | z | z | z; exact absurd z hF2; all_goals (rw [z]; decide)), c_X8_does_join_no l G cy am aS aBf aAs aSv aPa aOu aTx aCo K OM LN CM iS th ea fa σ x g i a b c ho hi e0 e1 hF2⟩
  · have hF2 : ¬ disF (nB σ) (mB σ) a = 0 := fun z => hF (fltC_6.trans z)
    exact ⟨mcL (disF (nB σ) (mB σ) a), (by rcases disF_v (nB σ) (mB σ) a with z | z | z; exact absurd z hF2; all_goals (rw [z]; decide)), c_X8_does_leave_no l G cy am aS aBf aAs aSv aPa aOu aTx aCo K OM LN CM iS th ea fa σ x g i a b c ho hi e0 e1 hF2⟩
  · have hF2 : ¬ tikF a = 0 := fun z => hF (fltC_7.trans z)
    exact ⟨1, by decide, c_X8_does_tick_no l G cy am aS aBf aAs aSv aPa aOu aTx aCo K OM LN CM iS th ea fa σ x g i a b c ho hi e0 e1 hF2⟩
