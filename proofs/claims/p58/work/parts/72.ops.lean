/-! each call, whatever its arguments: what it answers and what it leaves -/
theorem filF_v (N : Nat) (v : Nat → Int32) (b t q : Int32) : filF N v b t q = 0 ∨ filF N v b t q = 1 ∨ filF N v b t q = 2 ∨ filF N v b t q = 5 := by
  unfold filF
  (repeat' split) <;> simp
theorem plgF_v (N : Nat) (b : Int32) : plgF N b = 0 ∨ plgF N b = 1 := by
  unfold plgF
  (repeat' split) <;> simp
theorem traF_v (N : Nat) (v : Nat → Int32) (b t q : Int32) : traF N v b t q = 0 ∨ traF N v b t q = 1 ∨ traF N v b t q = 2 ∨ traF N v b t q = 4 ∨ traF N v b t q = 5 := by
  unfold traF
  (repeat' split) <;> simp
theorem dukF_v (N M : Nat) (b t q : Int32) : dukF N M b t q = 0 ∨ dukF N M b t q = 1 ∨ dukF N M b t q = 2 ∨ dukF N M b t q = 3 := by
  unfold dukF
  (repeat' split) <;> simp
theorem admF_v (N : Nat) (v h m : Nat → Int32) (b : Int32) : admF N v h m b = 0 ∨ admF N v h m b = 1 ∨ admF N v h m b = 3 ∨ admF N v h m b = 5 := by
  unfold admF
  (repeat' split) <;> simp
theorem disF_v (N : Nat) (m : Nat → Int32) (b : Int32) : disF N m b = 0 ∨ disF N m b = 1 ∨ disF N m b = 3 := by
  unfold disF
  (repeat' split) <;> simp
theorem tikF_v (n : Int32) : tikF n = 0 ∨ tikF n = 2 := by
  unfold tikF
  (repeat' split) <;> simp
theorem filF_i {N : Nat} {v : Nat → Int32} {b t q : Int32} (h : inI b (nI N) = true) : ¬ filF N v b t q = 1 := by
  unfold filF
  rw [if_pos h]
  (repeat' split) <;> decide
theorem traF_i {N : Nat} {v : Nat → Int32} {b t q : Int32} (h : inI b (nI N) = true) (h2 : inI t (nI N) = true) : ¬ traF N v b t q = 1 := by
  unfold traF
  rw [if_pos h, if_pos h2]
  (repeat' split) <;> decide
theorem admF_i {N : Nat} {v h m : Nat → Int32} {b : Int32} (hb : inI b (nI N) = true) : ¬ admF N v h m b = 1 := by
  unfold admF
  rw [if_pos hb]
  (repeat' split) <;> decide
theorem ge0_ti {x : Int32} (h : 0 ≤ x.toInt) : ¬ x < 0 := fun z => by
  rw [Int32.lt_iff_toInt_lt, Int32.toInt_zero] at z
  omega
theorem bz_ge (x : Int32) : ¬ bz x < 0 := by
  unfold bz
  split <;> decide
theorem cntM_nI (me : Nat → Int32) : ∀ N, ∃ c, c ≤ N ∧ cntM me N = nI c
  | 0 => ⟨0, Nat.le_refl 0, rfl⟩
  | N + 1 => by
    obtain ⟨c, h1, h2⟩ := cntM_nI me N
    simp only [cntM]
    split
    · exact ⟨c, by omega, h2⟩
    · exact ⟨c + 1, by omega, by rw [h2, nI_1]⟩
theorem cntM_ge {me : Nat → Int32} {N : Nat} (h : N < 900) : ¬ cntM me N < 0 := by
  obtain ⟨c, h1, h2⟩ := cntM_nI me N
  rw [h2]
  exact ge0_nI (by omega)
theorem lose1_dT (k : Nat) (σ : St) : dT (lose1 k σ) = dT σ := by unfold lose1; split <;> rfl
theorem loseN_dT (σ : St) : ∀ k, dT (loseN σ k) = dT σ
  | 0 => rfl
  | k + 1 => (lose1_dT k _).trans (loseN_dT σ k)
theorem drain1_dT (k : Nat) (σ : St) : dT (drain1 k σ) = dT σ := by unfold drain1; split <;> first | rfl | (split <;> rfl)
theorem drainN_dT (σ : St) : ∀ k, dT (drainN σ k) = dT σ
  | 0 => rfl
  | k + 1 => (drain1_dT k _).trans (drainN_dT σ k)
theorem defect1_dT (k : Nat) (σ : St) : dT (defect1 k σ) = dT σ ∨ dT (defect1 k σ) = dT σ + 1 := by
  unfold defect1
  split
  · exact Or.inl rfl
  · split
    · split
      · exact Or.inl rfl
      · exact Or.inr rfl
    · exact Or.inr rfl
theorem defectN_dT (σ : St) : ∀ k, ∃ c, c ≤ k ∧ dT (defectN σ k) = dT σ + nI c
  | 0 => ⟨0, Nat.le_refl 0, (Int32.add_zero _).symm⟩
  | k + 1 => by
    obtain ⟨c, h1, h2⟩ := defectN_dT σ k
    show ∃ c, c ≤ k + 1 ∧ dT (defect1 k (defectN σ k)) = dT σ + nI c
    rcases defect1_dT k (defectN σ k) with e | e
    · exact ⟨c, by omega, e.trans h2⟩
    · exact ⟨c + 1, by omega, by rw [e, h2, Int32.add_assoc, nI_1]⟩
theorem tickS_dT {σ : St} (hN : nB σ ≤ 5) : ∃ c, c ≤ 5 ∧ dT (tickS σ) = dT σ + nI c := by
  obtain ⟨c, h1, h2⟩ := defectN_dT (shaS (draS (losS σ))) (nB (shaS (draS (losS σ))))
  have h3 := mid_nB σ
  have h4 : dT (shaS (draS (losS σ))) = dT σ := (drainN_dT (losS σ) _).trans (loseN_dT σ _)
  exact ⟨c, by omega, (show dT (tickS σ) = dT (defectN (shaS (draS (losS σ))) (nB (shaS (draS (losS σ))))) from rfl).trans (h2.trans (by rw [h4]))⟩
theorem tickN_dT {σ : St} (hN : nB σ ≤ 5) : ∀ n, ∃ c, c ≤ 5 * n ∧ dT (tickN σ n) = dT σ + nI c
  | 0 => ⟨0, Nat.zero_le _, (Int32.add_zero _).symm⟩
  | n + 1 => by
    obtain ⟨c, h1, h2⟩ := tickN_dT hN n
    obtain ⟨d, h3, h4⟩ := tickS_dT (σ := tickN σ n) (by rw [tickN_nB]; exact hN)
    have h5 : dT (tickN σ (n + 1)) = dT σ + nI (c + d) := (show dT (tickN σ (n + 1)) = dT (tickS (tickN σ n)) from rfl).trans (by rw [h4, h2, Int32.add_assoc, nI_add])
    exact ⟨c + d, by omega, h5⟩
theorem lose1_nD (k : Nat) (σ : St) : nD (lose1 k σ) = nD σ := by unfold lose1; split <;> rfl
theorem loseN_nD (σ : St) : ∀ k, nD (loseN σ k) = nD σ
  | 0 => rfl
  | k + 1 => (lose1_nD k _).trans (loseN_nD σ k)
theorem drain1_nD (k : Nat) (σ : St) : nD (drain1 k σ) = nD σ := by unfold drain1; split <;> first | rfl | (split <;> rfl)
theorem drainN_nD (σ : St) : ∀ k, nD (drainN σ k) = nD σ
  | 0 => rfl
  | k + 1 => (drain1_nD k _).trans (drainN_nD σ k)
theorem defect1_nD (k : Nat) (σ : St) : nD (defect1 k σ) = nD σ := by
  unfold defect1
  split
  · rfl
  · split
    · split <;> rfl
    · rfl
theorem defectN_nD (σ : St) : ∀ k, nD (defectN σ k) = nD σ
  | 0 => rfl
  | k + 1 => (defect1_nD k _).trans (defectN_nD σ k)
theorem tickS_nD9 (σ : St) : nD (tickS σ) = nD σ := (show nD (tickS σ) = nD (defectN (shaS (draS (losS σ))) (nB (shaS (draS (losS σ))))) from rfl).trans ((defectN_nD _ _).trans ((show nD (shaS (draS (losS σ))) = nD (drainN (losS σ) (nB (losS σ))) from rfl).trans ((drainN_nD (losS σ) _).trans (loseN_nD σ _))))
theorem tickN_nD (σ : St) : ∀ k, nD (tickN σ k) = nD σ
  | 0 => rfl
  | k + 1 => (tickS_nD9 _).trans (tickN_nD σ k)
/-- the object, seen from without, at any time -/
def GV (n : Nat) (V : OV) : Prop := Inv n V.σ ∧ V.nx < 8 ∧ V.ct ≤ 8 ∧ V.LN = 0 ∧ czN 60 V.f ∧ ∀ k, k < 8 → Ok (V.ρ k)
theorem GV.mono {n m : Nat} {V : OV} (h : GV n V) (hm : n ≤ m) : GV m V := ⟨h.1.mono hm, h.2⟩
abbrev pushV (V : OV) (τ : St) : OV := OV.mk τ (updR V.ρ V.nx V.σ) ((V.nx + 1) % 8) (kInc V.ct) V.LN V.f V.nb V.fb
theorem kInc_le {k : Nat} (h : k ≤ 8) : kInc k ≤ 8 := by
  unfold kInc
  split <;> omega
theorem updR_ok {ρ : Nat → St} {k : Nat} {σ : St} (h : ∀ j, j < 8 → Ok (ρ j)) (hs : Ok σ) : ∀ j, j < 8 → Ok (updR ρ k σ j) := by
  intro j hj
  unfold updR
  split
  · exact hs
  · exact h j hj
theorem GV.push {n m : Nat} {V : OV} {τ : St} (h : GV n V) (hI : Inv m τ) : GV m (pushV V τ) := ⟨hI, Nat.mod_lt _ (by decide), kInc_le h.2.2.1, h.2.2.2.1, h.2.2.2.2.1, updR_ok h.2.2.2.2.2 h.1.1⟩
def SR (n : Nat) (V : OV) (P : Prop) (Q : St → Prop) : OV → Value → Prop := fun V2 r2 => ∃ r : Int32, r2 = .int r ∧ GV (n + 300) V2 ∧ V2.nb = V.nb ∧ ((¬ r < 0 ∧ V2.ρ = updR V.ρ V.nx V.σ ∧ V2.nx = (V.nx + 1) % 8 ∧ V2.ct = kInc V.ct ∧ Q V2.σ) ∨ (r < 0 ∧ V2.σ = V.σ ∧ V2.ρ = V.ρ ∧ V2.nx = V.nx ∧ V2.ct = V.ct ∧ (P → ¬ r = -1)))
theorem SR.yes {l : Launch} {y : MethodName} {F Lc k : Nat} {G : va_G} {cy : Nat → ClassId} {kS vS : Nat → Nat} {a : OA} {V : OV} {av : List Value} {n : Nat} {P : Prop} {Q : St → Prop} {τ : St} {r : Int32} (h : LQ l y F Lc k G cy kS vS a V (pushV V τ) av (.int r)) (hG : GV n V) (hr : ¬ r < 0) (hI : Inv (n + 300) τ) (hq : Q τ) : LX l y F Lc k G cy kS vS a V av (SR n V P Q) :=
  LX.mono h (Nat.le_refl _) (Nat.le_refl _) (Nat.le_refl _) (fun V2 r2 ⟨e1, e2⟩ => by
    subst e1
    exact ⟨r, e2, hG.push hI, rfl, Or.inl ⟨hr, rfl, rfl, rfl, hq⟩⟩)
theorem SR.no {l : Launch} {y : MethodName} {F Lc k : Nat} {G : va_G} {cy : Nat → ClassId} {kS vS : Nat → Nat} {a : OA} {V : OV} {av : List Value} {n : Nat} {P : Prop} {Q : St → Prop} {r : Int32} (h : LQ l y F Lc k G cy kS vS a V V av (.int r)) (hG : GV n V) (hr : r < 0) (hp : P → ¬ r = -1) : LX l y F Lc k G cy kS vS a V av (SR n V P Q) :=
  LX.mono h (Nat.le_refl _) (Nat.le_refl _) (Nat.le_refl _) (fun V2 r2 ⟨e1, e2⟩ => by
    subst e1
    exact ⟨r, e2, hG.mono (by omega), rfl, Or.inr ⟨hr, rfl, rfl, rfl, rfl, hp⟩⟩)
section OPS
variable (l : Launch) (G : va_G) (cy : Nat → ClassId) (kS vS : Nat → Nat) (a : OA) (V : OV) (n : Nat)
theorem g_addBath (hl9 : l.stackTraces = false) (hG : GV n V) (hn : n + 400 < 2147483648) : LX l yL_addBath 11 220 1 G cy kS vS a V [.ref a.aX] (SR n V False (fun _ => True)) := by
  have ho := hG.1.1
  by_cases h5 : nB V.σ < 5
  · exact SR.yes (q_addBath l G cy kS vS a V ho hG.2.1 hG.2.2.1 h5 (if_pos h5)) hG (ge0_nI (by omega)) ((inv_plcS hG.1 h5).mono (by omega)) trivial
  · exact SR.no (q_addBath_3 l G cy kS vS a V hl9 ho (if_neg h5)) hG (by decide) (fun h => h.elim)
theorem g_runTap (b t q : Int32) (hl9 : l.stackTraces = false) (hG : GV n V) (hn : n + 400 < 2147483648) : LX l yL_runTap 11 220 1 G cy kS vS a V [.ref a.aX, .int b, .int t, .int q] (SR n V (inI b (nI (nB V.σ)) = true) (fun τ => nB τ = nB V.σ ∧ nD τ = nD V.σ ∧ (Ev2 V.σ → Ev2 τ))) := by
  have ho := hG.1.1
  have hN := ho.1
  rcases filF_v (nB V.σ) (vB V.σ) b t q with z | z | z | z
  · obtain ⟨⟨e1, hj⟩, e3, e4, e5⟩ := filF_0 hN z
    have h2 : Inv (n + 1) (filS (bx b) q (q * (10 + 30 * t)) V.σ) := inv_fil hG.1 (by omega) hj e3 e4 e5
    have c := q_runTap l G cy kS vS a V (bx b) t q ho hG.2.1 hG.2.2.1 hj e3 (by rw [← e1]; exact z)
    rw [← e1] at c
    refine SR.yes c hG (ge0_ti (h2.2.1 (bx b) (by omega)).1) (h2.mono (by omega)) ⟨rfl, rfl, fun h => ev_filS h hj hN ?_⟩
    have q1 := (inR_iff.mp e4).1
    rw [Int32.lt_iff_toInt_lt, show (1 : Int32).toInt = 1 from by decide] at q1
    omega
  · exact SR.no (q_runTap_1 l G cy kS vS a V b t q hl9 ho z) hG (by decide) (fun h => absurd z (filF_i h))
  · exact SR.no (q_runTap_2 l G cy kS vS a V b t q hl9 ho z) hG (by decide) (fun _ => by decide)
  · exact SR.no (q_runTap_5 l G cy kS vS a V b t q hl9 ho z) hG (by decide) (fun _ => by decide)
theorem g_setPlug (b x : Int32) (hx9 : vp_nar .boolean x = x) (hl9 : l.stackTraces = false) (hG : GV n V) (hn : n + 400 < 2147483648) : LX l yL_setPlug 11 220 1 G cy kS vS a V [.ref a.aX, .int b, .int x] (SR n V False (fun _ => True)) := by
  have ho := hG.1.1
  have hN := ho.1
  rcases plgF_v (nB V.σ) b with z | z
  · obtain ⟨e1, hj⟩ := plgF_0 hN z
    have c := q_setPlug l G cy kS vS a V (bx b) x ho hG.2.1 hG.2.2.1 hj hx9 (by rw [← e1]; exact z)
    rw [← e1] at c
    exact SR.yes c hG (bz_ge _) ((inv_pluS hG.1 hx9).mono (by omega)) trivial
  · exact SR.no (q_setPlug_1 l G cy kS vS a V b x hl9 ho z) hG (by decide) (fun h => h.elim)
theorem g_pour (b t q : Int32) (hl9 : l.stackTraces = false) (hG : GV n V) (hn : n + 400 < 2147483648) : LX l yL_pour 11 220 1 G cy kS vS a V [.ref a.aX, .int b, .int t, .int q] (SR n V (inI b (nI (nB V.σ)) = true ∧ inI t (nI (nB V.σ)) = true) (fun τ => nB τ = nB V.σ ∧ nD τ = nD V.σ ∧ (Ev2 V.σ → Ev2 τ))) := by
  have ho := hG.1.1
  have hN := ho.1
  rcases traF_v (nB V.σ) (vB V.σ) b t q with z | z | z | z | z
  · obtain ⟨⟨e1, hi⟩, ⟨e2, hj⟩, e3, e4, e5, e6⟩ := traF_0 hN z
    have h2 : Inv (n + 1) (traS (bx b) (bx t) q V.σ) := inv_tra hG.1 (by omega) hi hj (fun w => e3 (by rw [e1, e2, w])) e4 e5 e6
    have c := q_pour l G cy kS vS a V (bx b) (bx t) q ho hG.2.1 hG.2.2.1 hi hj (by rw [← e1, ← e2]; exact z)
    rw [← e1, ← e2] at c
    have q1 := (inR_iff.mp e4).1
    rw [Int32.lt_iff_toInt_lt, show (1 : Int32).toInt = 1 from by decide] at q1
    have q2 := e5
    rw [Int32.lt_iff_toInt_lt] at q2
    have hw : 0 < (vB V.σ (bx b)).toInt := by omega
    have eH : heatOf (vB V.σ) (hB V.σ) (bx b) q = hB V.σ (bx b) * q / vB V.σ (bx b) := if_pos (ti_wet.mpr hw)
    have q3 := (wt_part (hG.1.2.1 (bx b) (by omega)) hw (show 0 ≤ q.toInt by omega) (show q.toInt ≤ (vB V.σ (bx b)).toInt by omega)).2.2.1
    exact SR.yes c hG (by rw [eH]; exact ge0_ti q3) (h2.mono (by omega)) ⟨rfl, rfl, fun h => ev_traS h hi hN (by omega)⟩
  · exact SR.no (q_pour_1 l G cy kS vS a V b t q hl9 ho z) hG (by decide) (fun h => absurd z (traF_i h.1 h.2))
  · exact SR.no (q_pour_2 l G cy kS vS a V b t q hl9 ho z) hG (by decide) (fun _ => by decide)
  · exact SR.no (q_pour_4 l G cy kS vS a V b t q hl9 ho z) hG (by decide) (fun _ => by decide)
  · exact SR.no (q_pour_5 l G cy kS vS a V b t q hl9 ho z) hG (by decide) (fun _ => by decide)
theorem g_addDuck (b t q : Int32) (hl9 : l.stackTraces = false) (hG : GV n V) (hn : n + 400 < 2147483648) : LX l yL_addDuck 11 220 1 G cy kS vS a V [.ref a.aX, .int b, .int t, .int q] (SR n V False (fun _ => True)) := by
  have ho := hG.1.1
  have hN := ho.1
  rcases dukF_v (nB V.σ) (nD V.σ) b t q with z | z | z | z
  · obtain ⟨-, e3, -, -, -, e6⟩ := dukF_0 hN z
    exact SR.yes (q_addDuck l G cy kS vS a V b t q ho hG.2.1 hG.2.2.1 e6 e3 z) hG (ge0_nI (by omega)) ((inv_dukS hG.1 e6 e3).mono (by omega)) trivial
  · exact SR.no (q_addDuck_1 l G cy kS vS a V b t q hl9 ho z) hG (by decide) (fun h => h.elim)
  · exact SR.no (q_addDuck_2 l G cy kS vS a V b t q hl9 ho z) hG (by decide) (fun h => h.elim)
  · exact SR.no (q_addDuck_3 l G cy kS vS a V b t q hl9 ho z) hG (by decide) (fun h => h.elim)
theorem g_join (b : Int32) (hl9 : l.stackTraces = false) (hG : GV n V) (hn : n + 400 < 2147483648) : LX l yL_join 11 220 1 G cy kS vS a V [.ref a.aX, .int b] (SR n V (inI b (nI (nB V.σ)) = true) (fun τ => nB τ = nB V.σ ∧ nD τ = nD V.σ ∧ (Ev2 V.σ → Ev2 τ))) := by
  have ho := hG.1.1
  have hN := ho.1
  rcases admF_v (nB V.σ) (vB V.σ) (hB V.σ) (mB V.σ) b with z | z | z | z
  · obtain ⟨⟨e1, hj⟩, -⟩ := admF_0 hN z
    have c := q_join l G cy kS vS a V (bx b) ho hG.2.1 hG.2.2.1 hj (by rw [← e1]; exact z)
    rw [← e1] at c
    exact SR.yes c hG (cntM_ge (show nB V.σ < 900 by omega)) ((inv_admS hG.1 hj).mono (by omega)) ⟨rfl, rfl, fun h => ev_admS h hj hN⟩
  · exact SR.no (q_join_1 l G cy kS vS a V b hl9 ho z) hG (by decide) (fun h => absurd z (admF_i h))
  · exact SR.no (q_join_3 l G cy kS vS a V b hl9 ho z) hG (by decide) (fun _ => by decide)
  · exact SR.no (q_join_5 l G cy kS vS a V b hl9 ho z) hG (by decide) (fun _ => by decide)
theorem g_leave (b : Int32) (hl9 : l.stackTraces = false) (hG : GV n V) (hn : n + 400 < 2147483648) : LX l yL_leave 11 220 1 G cy kS vS a V [.ref a.aX, .int b] (SR n V False (fun _ => True)) := by
  have ho := hG.1.1
  have hN := ho.1
  rcases disF_v (nB V.σ) (mB V.σ) b with z | z | z
  · obtain ⟨⟨e1, hj⟩, -⟩ := disF_0 hN z
    have c := q_leave l G cy kS vS a V (bx b) ho hG.2.1 hG.2.2.1 hj (by rw [← e1]; exact z)
    rw [← e1] at c
    exact SR.yes c hG (cntM_ge (show nB V.σ < 900 by omega)) ((inv_disS hG.1 (bx b)).mono (by omega)) trivial
  · exact SR.no (q_leave_1 l G cy kS vS a V b hl9 ho z) hG (by decide) (fun h => h.elim)
  · exact SR.no (q_leave_3 l G cy kS vS a V b hl9 ho z) hG (by decide) (fun h => h.elim)
theorem g_advance (b : Int32) (hl9 : l.stackTraces = false) (hG : GV n V) (hn : n + 400 < 2147483648) : LX l yL_advance 11 220 1 G cy kS vS a V [.ref a.aX, .int b] (SR n V (tikF b = 0) (fun τ => nB τ = nB V.σ ∧ nD τ = nD V.σ ∧ (Ev2 V.σ → Ev2 τ))) := by
  have ho := hG.1.1
  have hN := ho.1
  rcases tikF_v b with z | z
  · obtain ⟨e1, h1, h20⟩ := tikF_0 z
    have c := q_advance l G cy kS vS a V (bx b) ho hG.2.1 hG.2.2.1 (by omega) (by rw [← e1]; exact z)
    rw [← e1] at c
    obtain ⟨d, d1, d2⟩ := tickN_dT hN (bx b)
    have e2 : dT (tickN V.σ (bx b)) - dT V.σ = nI d := by rw [d2, e_in]
    exact SR.yes c hG (by rw [e2]; exact ge0_nI (by omega)) ((inv_tickN hG.1 (bx b) (by omega)).mono (by omega)) ⟨tickN_nB V.σ _, tickN_nD V.σ _, fun h => ev_tickN h hN _⟩
  · exact SR.no (q_advance_2 l G cy kS vS a V b hl9 ho z) hG (by decide) (fun h => absurd (h.symm.trans z) (by decide))
end OPS
/-- a script that is run -/
theorem run_SR {n : Nat} {V V2 : OV} {r2 : Value} (hG : GV n V) (h : (∃ (n9 : Nat) (τ9 : St) (f9 : Nat → Int32), V2 = OV.mk τ9 (updR V.ρ V.nx V.σ) ((V.nx + 1) % 8) (kInc V.ct) 0 f9 V.nb V.fb ∧ r2 = .int (nI n9) ∧ n9 ≤ 13 ∧ Inv (n + 260) τ9 ∧ czN 60 f9) ∨ (∃ f9 : Nat → Int32, V2 = OV.mk V.σ V.ρ V.nx V.ct 0 f9 V.nb V.fb ∧ (r2 = .int (-1) ∨ r2 = .int (-2)) ∧ czN 60 f9)) : SR n V False (fun _ => True) V2 r2 := by
  rcases h with ⟨n9, τ9, f9, e1, e2, h1, h2, h3⟩ | ⟨f9, e1, e2, h3⟩
  · subst e1
    exact ⟨nI n9, e2, ⟨h2.mono (by omega), Nat.mod_lt _ (by decide), kInc_le hG.2.2.1, rfl, h3, updR_ok hG.2.2.2.2.2 hG.1.1⟩, rfl, Or.inl ⟨ge0_nI (by omega), rfl, rfl, rfl, trivial⟩⟩
  · subst e1
    have h4 : GV (n + 300) (OV.mk V.σ V.ρ V.nx V.ct 0 f9 V.nb V.fb) := ⟨hG.1.mono (by omega), hG.2.1, hG.2.2.1, rfl, h3, hG.2.2.2.2.2⟩
    rcases e2 with e2 | e2
    · exact ⟨-1, e2, h4, rfl, Or.inr ⟨by decide, rfl, rfl, rfl, rfl, fun h => h.elim⟩⟩
    · exact ⟨-2, e2, h4, rfl, Or.inr ⟨by decide, rfl, rfl, rfl, rfl, fun h => h.elim⟩⟩
/-- done calls, and what was seen before each -/
def UD (n0 k d : Nat) (V : OV) (g : Nat → Int64) (S : Nat → St) : Prop := d ≤ k ∧ GV (n0 + 300 * k) V ∧ S d = V.σ ∧ (∀ j, j < d → V.ρ ((V.nx + 8 - d + j) % 8) = S j) ∧ d ≤ V.ct ∧ (∀ j, j ≤ d → Inv (n0 + 2100) (S j)) ∧ ∀ j, j < d → g j = sumF (S j)
theorem updR_s {ρ : Nat → St} {k : Nat} {σ : St} : updR ρ k σ k = σ := if_pos rfl
theorem updR_n {ρ : Nat → St} {k j : Nat} {σ : St} (h : ¬ j = k) : updR ρ k σ j = ρ j := if_neg h
theorem UD.yes {n0 k d : Nat} {V V2 : OV} {g : Nat → Int64} {S : Nat → St} (h : UD n0 k d V g S) (hk : k < 7) (h2 : GV (n0 + 300 * k + 300) V2) (e1 : V2.ρ = updR V.ρ V.nx V.σ) (e2 : V2.nx = (V.nx + 1) % 8) (e3 : V2.ct = kInc V.ct) : UD n0 (k + 1) (d + 1) V2 (vp_updL g d (sumF V.σ)) (fun j => if j = d + 1 then V2.σ else S j) := by
  obtain ⟨hd, hG, hS, hr, hc, hI, hg⟩ := h
  have hnx := hG.2.1
  have hct := hG.2.2.1
  refine ⟨by omega, h2.mono (by omega), if_pos rfl, ?_, ?_, ?_, ?_⟩
  · intro j hj
    show V2.ρ ((V2.nx + 8 - (d + 1) + j) % 8) = (if j = d + 1 then V2.σ else S j)
    rw [if_neg (by omega), e1, e2]
    by_cases z : j = d
    · rw [z, show ((V.nx + 1) % 8 + 8 - (d + 1) + d) % 8 = V.nx from by omega, updR_s]
      exact hS.symm
    · rw [show ((V.nx + 1) % 8 + 8 - (d + 1) + j) % 8 = (V.nx + 8 - d + j) % 8 from by omega, updR_n (by omega)]
      exact hr j (by omega)
  · rw [e3]
    unfold kInc
    split <;> omega
  · intro j hj
    show Inv (n0 + 2100) (if j = d + 1 then V2.σ else S j)
    by_cases z : j = d + 1
    · rw [if_pos z]
      exact h2.1.mono (by omega)
    · rw [if_neg z]
      exact hI j (by omega)
  · intro j hj
    show (if j = d then sumF V.σ else g j) = sumF (if j = d + 1 then V2.σ else S j)
    rw [if_neg (show ¬ j = d + 1 by omega)]
    by_cases z : j = d
    · rw [if_pos z, z, hS]
    · rw [if_neg z]
      exact hg j (by omega)
theorem UD.no {n0 k d : Nat} {V V2 : OV} {g : Nat → Int64} {S : Nat → St} (h : UD n0 k d V g S) (h2 : GV (n0 + 300 * k + 300) V2) (e0 : V2.σ = V.σ) (e1 : V2.ρ = V.ρ) (e2 : V2.nx = V.nx) (e3 : V2.ct = V.ct) : UD n0 (k + 1) d V2 (vp_updL g d (sumF V.σ)) S := by
  obtain ⟨hd, hG, hS, hr, hc, hI, hg⟩ := h
  refine ⟨by omega, h2.mono (by omega), hS.trans e0.symm, ?_, by rw [e3]; exact hc, hI, ?_⟩
  · intro j hj
    rw [e1, e2]
    exact hr j hj
  · intro j hj
    show (if j = d then sumF V.σ else g j) = sumF (S j)
    rw [if_neg (by omega)]
    exact hg j hj
/-- on the way back -/
def UB (m : Nat) (V : OV) (S : Nat → St) : Prop := S m = V.σ ∧ (∀ j, j < m → V.ρ ((V.nx + 8 - m + j) % 8) = S j) ∧ m ≤ V.ct ∧ V.nx < 8 ∧ V.ct ≤ 8 ∧ m ≤ 7 ∧ ∀ k, k < 8 → Ok (V.ρ k)
theorem UD.back {n0 k d : Nat} {V : OV} {g : Nat → Int64} {S : Nat → St} (h : UD n0 k d V g S) (hk : k ≤ 7) : UB d V S := ⟨h.2.2.1, h.2.2.2.1, h.2.2.2.2.1, h.2.1.2.1, h.2.1.2.2.1, Nat.le_trans h.1 hk, h.2.1.2.2.2.2.2⟩
theorem g_undo (l : Launch) (G : va_G) (cy : Nat → ClassId) (kS vS : Nat → Nat) (a : OA) (V : OV) (S : Nat → St) (m : Nat) (h : UB (m + 1) V S) : LX l yL_undo 11 220 1 G cy kS vS a V [.ref a.aX] (fun V2 r2 => (∃ r : Int32, r2 = .int r ∧ ¬ r < 0) ∧ UB m V2 S) := by
  obtain ⟨σ, ρ, nx, ct, LN, f, nb, fb⟩ := V
  obtain ⟨z1, z2, z3, z4, z5, h6, z7⟩ := h
  have h1 : S (m + 1) = σ := z1
  have h2 : ∀ j, j < m + 1 → ρ ((nx + 8 - (m + 1) + j) % 8) = S j := z2
  have h3 : m + 1 ≤ ct := z3
  have h4 : nx < 8 := z4
  have h5 : ct ≤ 8 := z5
  have h7 : ∀ k, k < 8 → Ok (ρ k) := z7
  obtain ⟨K, rfl⟩ : ∃ K, ct = K + 1 := ⟨ct - 1, by omega⟩
  refine LX.mono (q_undo l G cy kS vS a σ ρ nx K LN f nb fb h7 h4 (by omega)) (Nat.le_refl _) (Nat.le_refl _) (Nat.le_refl _) (fun V2 r2 ⟨e1, e2⟩ => ?_)
  subst e1
  refine ⟨⟨nI K, e2, ge0_nI (by omega)⟩, ?_, ?_, by show m ≤ K; omega, Nat.mod_lt _ (by decide), by show K ≤ 8; omega, by omega, h7⟩
  · show S m = ρ ((nx + 7) % 8)
    rw [← h2 m (by omega)]
    congr 1
    omega
  · intro j hj
    show ρ (((nx + 7) % 8 + 8 - m + j) % 8) = S j
    rw [← h2 j (by omega)]
    congr 1
    omega
