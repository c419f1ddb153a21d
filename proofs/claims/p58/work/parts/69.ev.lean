/-! what holds of ducks and events -/
def EvO (N : Nat) (k b l : Int32) : Prop := inI b (nI N) = true ∧ ((k = 116 ∨ k = 112) ∧ 0 < l.toInt ∨ (k = 106 ∨ k = 108 ∨ k = 100) ∧ l = -1)
def Ev2 (σ : St) : Prop := (∀ j, j < nD σ → inI (bD σ j) (nI (nB σ)) = true ∧ ¬ lD σ j < 0) ∧ ∀ j, j < nE σ → EvO (nB σ) (kE σ j) (bE σ j) (lE σ j)
theorem Ev2.keep {σ τ : St} (h : Ev2 σ) (hn : nB τ = nB σ) (hd : nD τ = nD σ ∧ bD τ = bD σ ∧ lD τ = lD σ) (he : nE τ = nE σ ∧ kE τ = kE σ ∧ bE τ = bE σ ∧ lE τ = lE σ) : Ev2 τ := by
  unfold Ev2
  rw [hn, hd.1, hd.2.1, hd.2.2, he.1, he.2.1, he.2.2.1, he.2.2.2]
  exact h
theorem Ev2.note {σ : St} (h : Ev2 σ) {c x q : Int32} (ho : EvO (nB σ) c x q) : Ev2 (ntS c x q σ) := by
  refine ⟨h.1, fun j hj => ?_⟩
  show EvO (nB σ) (psh (kE σ) c j) (psh (bE σ) x j) (psh (lE σ) q j)
  have hj2 : j < evc (nE σ) := hj
  unfold psh
  by_cases e : j = 0
  · rw [if_pos e, if_pos e, if_pos e]
    exact ho
  · rw [if_neg e, if_neg e, if_neg e]
    refine h.2 (j - 1) ?_
    unfold evc at hj2
    split at hj2 <;> omega
theorem ev_obsS {σ : St} (h : Ev2 σ) : Ev2 (obsS σ) := h.keep (τ := obsS σ) rfl ⟨rfl, rfl, rfl⟩ ⟨rfl, rfl, rfl, rfl⟩
theorem ev_incT {σ : St} (h : Ev2 σ) : Ev2 (incT σ) := h.keep (τ := incT σ) rfl ⟨rfl, rfl, rfl⟩ ⟨rfl, rfl, rfl, rfl⟩
theorem ev_shaS {σ : St} (h : Ev2 σ) : Ev2 (shaS σ) := h.keep (τ := shaS σ) rfl ⟨rfl, rfl, rfl⟩ ⟨rfl, rfl, rfl, rfl⟩
theorem ev_loseN {σ : St} (h : Ev2 σ) : ∀ k, Ev2 (loseN σ k)
  | 0 => h
  | k + 1 => by
    have g := ev_loseN h k
    show Ev2 (lose1 k (loseN σ k))
    unfold lose1
    split
    · exact g.keep rfl ⟨rfl, rfl, rfl⟩ ⟨rfl, rfl, rfl, rfl⟩
    · exact g
theorem ev_drainN {σ : St} (h : Ev2 σ) : ∀ k, Ev2 (drainN σ k)
  | 0 => h
  | k + 1 => by
    have g := ev_drainN h k
    show Ev2 (drain1 k (drainN σ k))
    unfold drain1
    split
    · split
      · exact g.keep rfl ⟨rfl, rfl, rfl⟩ ⟨rfl, rfl, rfl, rfl⟩
      · exact g
    · exact g
def outS (k : Nat) (σ : St) : St := ((nB σ, vB σ, hB σ, pB σ, upd (mB σ) k 0), (nD σ, bD σ, lD σ, uD σ, qD σ, wD σ), (nE σ, kE σ, bE σ, lE σ), (tT σ, dT σ + 1, aT σ, rT σ, hT σ, xT σ))
theorem ev_leavS {σ : St} (h : Ev2 σ) {k : Nat} (hk : k < nB σ) (hN : nB σ ≤ 5) : Ev2 (leavS k σ) := by
  have g : Ev2 (outS k σ) := h.keep (τ := outS k σ) rfl ⟨rfl, rfl, rfl⟩ ⟨rfl, rfl, rfl, rfl⟩
  have g2 : Ev2 (ntS 100 (nI k) (-1) (outS k σ)) := g.note ⟨m_inI (show k < nB σ from hk) (show nB σ < 1000 by omega), Or.inr ⟨Or.inr (Or.inr rfl), rfl⟩⟩
  exact g2
theorem ev_defectN {σ : St} (h : Ev2 σ) (hN : nB σ ≤ 5) : ∀ k, k ≤ nB σ → Ev2 (defectN σ k)
  | 0, _ => h
  | k + 1, hk => by
    have g := ev_defectN h hN k (by omega)
    have en := defectN_nB σ k
    have g2 : Ev2 (leavS k (defectN σ k)) := ev_leavS g (by omega) (by omega)
    show Ev2 (defect1 k (defectN σ k))
    unfold defect1
    split
    · exact g
    · split
      · split
        · exact g
        · exact g2
      · exact g2
theorem ev_tickS {σ : St} (h : Ev2 σ) (hN : nB σ ≤ 5) : Ev2 (tickS σ) := by
  have e := mid_nB σ
  exact ev_obsS (ev_incT (ev_defectN (ev_shaS (ev_drainN (ev_loseN h _) _)) (show nB (shaS (draS (losS σ))) ≤ 5 by omega) _ (Nat.le_refl _)))
theorem ev_tickN {σ : St} (h : Ev2 σ) (hN : nB σ ≤ 5) : ∀ k, Ev2 (tickN σ k)
  | 0 => h
  | k + 1 => ev_tickS (ev_tickN h hN k) (by rw [tickN_nB]; exact hN)
theorem inI_suc {b : Int32} {N : Nat} (hN : N < 900) (h : inI b (nI N) = true) : inI b (nI (N + 1)) = true := by
  obtain ⟨e, hb⟩ := m_ixp (by omega) h
  rw [e]
  exact m_inI (by omega) (by omega)
theorem ev_plcS {σ : St} (h : Ev2 σ) (h5 : nB σ < 5) : Ev2 (plcS σ) :=
  ⟨fun j hj => ⟨inI_suc (by omega) (h.1 j hj).1, (h.1 j hj).2⟩, fun j hj => ⟨inI_suc (by omega) (h.2 j hj).1, (h.2 j hj).2⟩⟩
theorem ev_pluS {σ : St} (h : Ev2 σ) (j : Nat) (x : Int32) : Ev2 (pluS j x σ) := h.keep (τ := pluS j x σ) rfl ⟨rfl, rfl, rfl⟩ ⟨rfl, rfl, rfl, rfl⟩
theorem ev_filS {σ : St} (h : Ev2 σ) {j : Nat} {q u : Int32} (hj : j < nB σ) (hN : nB σ ≤ 5) (hq : 0 < q.toInt) : Ev2 (filS j q u σ) := by
  have g : Ev2 (fillU j q u σ) := h.keep (τ := fillU j q u σ) rfl ⟨rfl, rfl, rfl⟩ ⟨rfl, rfl, rfl, rfl⟩
  exact ev_obsS (g.note ⟨m_inI (show j < nB σ from hj) (show nB σ < 1000 by omega), Or.inl ⟨Or.inl rfl, hq⟩⟩)
theorem ev_traS {σ : St} (h : Ev2 σ) {i j : Nat} {q : Int32} (hi : i < nB σ) (hN : nB σ ≤ 5) (hq : 0 < q.toInt) : Ev2 (traS i j q σ) := by
  have g : Ev2 (movS i j q (heatOf (vB σ) (hB σ) i q) σ) := h.keep (τ := movS i j q (heatOf (vB σ) (hB σ) i q) σ) rfl ⟨rfl, rfl, rfl⟩ ⟨rfl, rfl, rfl, rfl⟩
  exact ev_obsS (g.note ⟨m_inI (show i < nB σ from hi) (show nB σ < 1000 by omega), Or.inl ⟨Or.inr rfl, hq⟩⟩)
theorem ev_admS {σ : St} (h : Ev2 σ) {j : Nat} (hj : j < nB σ) (hN : nB σ ≤ 5) : Ev2 (admS j σ) := by
  have g : Ev2 (((nB σ, vB σ, hB σ, pB σ, upd (mB σ) j 1), (nD σ, bD σ, lD σ, uD σ, qD σ, wD σ), (nE σ, kE σ, bE σ, lE σ), (tT σ, dT σ, aT σ, rT σ, hT σ, xT σ)) : St) := h.keep rfl ⟨rfl, rfl, rfl⟩ ⟨rfl, rfl, rfl, rfl⟩
  exact g.note (c := 106) (x := nI j) (q := -1) ⟨m_inI (show j < nB σ from hj) (show nB σ < 1000 by omega), Or.inr ⟨Or.inl rfl, rfl⟩⟩
theorem ev_dukS {σ : St} (h : Ev2 σ) {b t q : Int32} (hb : inI b (nI (nB σ)) = true) (ht : ¬ t < 0) : Ev2 (dukS b t q σ) := by
  refine ⟨fun j hj => ?_, h.2⟩
  have hj2 : j < nD σ + 1 := hj
  show inI (upd (bD σ) (nD σ) b j) (nI (nB σ)) = true ∧ ¬ upd (lD σ) (nD σ) t j < 0
  by_cases e : j = nD σ
  · subst e
    rw [m_updS, m_updS]
    exact ⟨hb, ht⟩
  · rw [m_updN e, m_updN e]
    exact h.1 j (by omega)
theorem fc_32 : ∀ a, a < 7 → ∀ b, b < 7 → ¬ b = 0 → Op.cmpValue (FP.fcmp (FP.fdiv (FP.i2f (nI a)) (FP.i2f (nI b))) (FP.fdiv (FP.i2f (nI a)) (FP.i2f (nI b)))) CmpOp.l = 0 := by
  decide +kernel
theorem fcs_ok {σ : St} (ho : Ok σ) (h0 : ¬ nD σ = 0) : Op.cmpValue (FP.fcmp (csh σ) (csh σ)) CmpOp.l = 0 := by
  obtain ⟨c, h1, h2⟩ := cntP_n (plS σ) (nD σ)
  have hM := ho.2.1
  show Op.cmpValue (FP.fcmp (FP.fdiv (FP.i2f (cntP (plS σ) (nD σ))) (FP.i2f (nI (nD σ)))) (FP.fdiv (FP.i2f (cntP (plS σ) (nD σ))) (FP.i2f (nI (nD σ))))) CmpOp.l = 0
  rw [h2]
  exact fc_32 c (by omega) (nD σ) (by omega) h0
theorem dcm_self {x : UInt64} (h : vf_n64 x) {op : CmpOp} : Op.cmpValue (FP.dcmp x x) op = 0 := by
  have hn : Jvm.FP.Core.dIsNaN x = false := by
    cases hz : Jvm.FP.Core.dIsNaN x with
    | false => rfl
    | true =>
      exfalso
      have h1 := (Jvm.FP.Core.isNaN_bits x).mp hz
      unfold vf_n64 at h
      rw [UInt64.le_iff_toNat_le, UInt64.toNat_and] at h
      have e : x.toNat &&& (0x7fffffffffffffff : UInt64).toNat = x.toNat % 2 ^ 63 := by
        rw [show (0x7fffffffffffffff : UInt64).toNat = 2 ^ 63 - 1 from by decide, Nat.and_two_pow_sub_one_eq_mod]
      rw [e, show (0x7ff0000000000000 : UInt64).toNat = 9218868437227405312 from by decide] at h
      omega
  have e := Jvm.FP.Core.dcmp_refl hn
  show Op.cmpValue (Jvm.FP.Core.dcmp x x) op = 0
  rw [e]
  rfl
theorem nI_pre9 {k : Nat} : nI (k + 1) - 1 = nI k := nI_pred k
theorem ge0_32 {x : Int32} (h : 0 ≤ x.toInt) : (0 : Int32) ≤ x := by
  rw [Int32.le_iff_toInt_le, Int32.toInt_zero]
  exact h
theorem duck_by {p : Nat → Bool} {dq : Nat → Int32} {a b n : Nat} (hr : rkD p dq a b = true) (qa : 0 ≤ (dq a).toInt ∧ (dq a).toInt ≤ (n : Int)) (qb : 0 ≤ (dq b).toInt ∧ (dq b).toInt ≤ (n : Int)) (hn : n < 500000000) : ¬ 2 * (dq a - dq b) + bz (if p a = true then 1 else 0) - bz (if p b = true then 1 else 0) < 0 ∧ (2 * (dq a - dq b) + bz (if p a = true then 1 else 0) - bz (if p b = true then 1 else 0) = 0 → a < b) := by
  have key : ∀ c d : Int32, (c = 0 ∨ c = 1) → (d = 0 ∨ d = 1) → (2 * (dq a - dq b) + c - d).toInt = 2 * ((dq a).toInt - (dq b).toInt) + c.toInt - d.toInt := by
    intro c d hc hd
    have e1 : (dq a - dq b).toInt = (dq a).toInt - (dq b).toInt := by
      rw [Int32.toInt_sub]
      exact Int.bmod_eq_of_le (by omega) (by omega)
    have e2 : (2 * (dq a - dq b)).toInt = 2 * ((dq a).toInt - (dq b).toInt) := by
      rw [Int32.toInt_mul, e1, show (2 : Int32).toInt = 2 from by decide]
      exact Int.bmod_eq_of_le (by omega) (by omega)
    have c1 : 0 ≤ c.toInt ∧ c.toInt ≤ 1 := by rcases hc with e | e <;> subst e <;> decide
    have d1 : 0 ≤ d.toInt ∧ d.toInt ≤ 1 := by rcases hd with e | e <;> subst e <;> decide
    have e3 : (2 * (dq a - dq b) + c).toInt = 2 * ((dq a).toInt - (dq b).toInt) + c.toInt := by
      rw [Int32.toInt_add, e2]
      exact Int.bmod_eq_of_le (by omega) (by omega)
    rw [Int32.toInt_sub, e3]
    exact Int.bmod_eq_of_le (by omega) (by omega)
  have t0 : (0 : Int32).toInt = 0 := by decide
  have t1 : (1 : Int32).toInt = 1 := by decide
  rw [rkD_int] at hr
  cases ha : p a <;> cases hb : p b <;> rw [ha, hb] at hr
  · have k := key 0 0 (Or.inl rfl) (Or.inl rfl)
    rw [t0] at k
    show ¬ 2 * (dq a - dq b) + 0 - 0 < (0 : Int32) ∧ (2 * (dq a - dq b) + 0 - 0 = (0 : Int32) → a < b)
    refine ⟨fun z => ?_, fun z => ?_⟩
    · rw [Int32.lt_iff_toInt_lt, k, t0] at z
      omega
    · rw [z, t0] at k
      rcases hr with hr | ⟨_, hr | hr⟩
      · omega
      · cases hr.1
      · exact hr.2
  · have k := key 0 1 (Or.inl rfl) (Or.inr rfl)
    rw [t0, t1] at k
    show ¬ 2 * (dq a - dq b) + 0 - 1 < (0 : Int32) ∧ (2 * (dq a - dq b) + 0 - 1 = (0 : Int32) → a < b)
    rcases hr with hr | ⟨_, hr | hr⟩
    · refine ⟨fun z => ?_, fun z => ?_⟩
      · rw [Int32.lt_iff_toInt_lt, k, t0] at z
        omega
      · rw [z, t0] at k
        omega
    · cases hr.1
    · cases hr.1
  · have k := key 1 0 (Or.inr rfl) (Or.inl rfl)
    rw [t0, t1] at k
    show ¬ 2 * (dq a - dq b) + 1 - 0 < (0 : Int32) ∧ (2 * (dq a - dq b) + 1 - 0 = (0 : Int32) → a < b)
    refine ⟨fun z => ?_, fun z => ?_⟩
    · rw [Int32.lt_iff_toInt_lt, k, t0] at z
      omega
    · rw [z, t0] at k
      omega
  · have k := key 1 1 (Or.inr rfl) (Or.inr rfl)
    rw [t1] at k
    show ¬ 2 * (dq a - dq b) + 1 - 1 < (0 : Int32) ∧ (2 * (dq a - dq b) + 1 - 1 = (0 : Int32) → a < b)
    refine ⟨fun z => ?_, fun z => ?_⟩
    · rw [Int32.lt_iff_toInt_lt, k, t0] at z
      omega
    · rw [z, t0] at k
      rcases hr with hr | ⟨_, hr | hr⟩
      · omega
      · cases hr.2
      · exact hr.2
theorem neg13 {x : Int32} (h : ¬ x < 0) : (-13 : Int32) < x := by
  rw [Int32.lt_iff_toInt_lt, Int32.toInt_zero] at h
  rw [Int32.lt_iff_toInt_lt, show (-13 : Int32).toInt = -13 from by decide]
  omega
