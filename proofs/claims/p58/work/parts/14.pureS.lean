/-! a State as a value: baths (number, litres, heat, plugged, member), ducks (number, bath, low, high, quacks, pleased), events (number, kind, bath, litres), totals -/
abbrev St : Type := (Nat × (Nat → Int32) × (Nat → Int32) × (Nat → Int32) × (Nat → Int32)) × (Nat × (Nat → Int32) × (Nat → Int32) × (Nat → Int32) × (Nat → Int32) × (Nat → Int32)) × (Nat × (Nat → Int32) × (Nat → Int32) × (Nat → Int32)) × (Int32 × Int32 × Int32 × Int32 × Int32 × Int32)
abbrev nB (σ : St) : Nat := σ.1.1
abbrev vB (σ : St) : Nat → Int32 := σ.1.2.1
abbrev hB (σ : St) : Nat → Int32 := σ.1.2.2.1
abbrev pB (σ : St) : Nat → Int32 := σ.1.2.2.2.1
abbrev mB (σ : St) : Nat → Int32 := σ.1.2.2.2.2
abbrev nD (σ : St) : Nat := σ.2.1.1
abbrev bD (σ : St) : Nat → Int32 := σ.2.1.2.1
abbrev lD (σ : St) : Nat → Int32 := σ.2.1.2.2.1
abbrev uD (σ : St) : Nat → Int32 := σ.2.1.2.2.2.1
abbrev qD (σ : St) : Nat → Int32 := σ.2.1.2.2.2.2.1
abbrev wD (σ : St) : Nat → Int32 := σ.2.1.2.2.2.2.2
abbrev nE (σ : St) : Nat := σ.2.2.1.1
abbrev kE (σ : St) : Nat → Int32 := σ.2.2.1.2.1
abbrev bE (σ : St) : Nat → Int32 := σ.2.2.1.2.2.1
abbrev lE (σ : St) : Nat → Int32 := σ.2.2.1.2.2.2
abbrev tT (σ : St) : Int32 := σ.2.2.2.1
abbrev dT (σ : St) : Int32 := σ.2.2.2.2.1
abbrev aT (σ : St) : Int32 := σ.2.2.2.2.2.1
abbrev rT (σ : St) : Int32 := σ.2.2.2.2.2.2.1
abbrev hT (σ : St) : Int32 := σ.2.2.2.2.2.2.2.1
abbrev xT (σ : St) : Int32 := σ.2.2.2.2.2.2.2.2
def Ok (σ : St) : Prop := nB σ ≤ 5 ∧ nD σ ≤ 6 ∧ nE σ ≤ 10 ∧ (∀ j, j < 6 → dOK (bD σ j)) ∧ bzN 5 (pB σ) ∧ bzN 5 (mB σ) ∧ bzN 6 (wD σ) ∧ czN 10 (kE σ)
theorem Ok.d {σ : St} (h : Ok σ) : ∀ j, j < nD σ → dOK (bD σ j) := fun j hj => h.2.2.2.1 j (Nat.lt_of_lt_of_le hj h.2.1)
def lose1 (k : Nat) (σ : St) : St := if wet (vB σ) k = true then ((nB σ, vB σ, upd (hB σ) k (hB σ k - (hB σ k - 20 * vB σ k) / 10), pB σ, mB σ), (nD σ, bD σ, lD σ, uD σ, qD σ, wD σ), (nE σ, kE σ, bE σ, lE σ), (tT σ, dT σ, aT σ, rT σ, hT σ, xT σ + (hB σ k - 20 * vB σ k) / 10)) else σ
def loseN (σ : St) : Nat → St
  | 0 => σ
  | k + 1 => lose1 k (loseN σ k)
def losS (σ : St) : St := loseN σ (nB σ)
def drq (x : Int32) : Int32 := if x < 3 then x else 3
def drain1 (k : Nat) (σ : St) : St := if wet (vB σ) k = true then if pB σ k = 0 then ((nB σ, upd (vB σ) k (vB σ k - drq (vB σ k)), upd (hB σ) k (hB σ k - heatOf (vB σ) (hB σ) k (drq (vB σ k))), pB σ, mB σ), (nD σ, bD σ, lD σ, uD σ, qD σ, wD σ), (nE σ, kE σ, bE σ, lE σ), (tT σ, dT σ, aT σ, rT σ + drq (vB σ k), hT σ, xT σ + heatOf (vB σ) (hB σ) k (drq (vB σ k)))) else σ else σ
def drainN (σ : St) : Nat → St
  | 0 => σ
  | k + 1 => drain1 k (drainN σ k)
def draS (σ : St) : St := drainN σ (nB σ)
def shaS (σ : St) : St := ((nB σ, vB σ, shH (vB σ) (hB σ) (mB σ) (nB σ), pB σ, mB σ), (nD σ, bD σ, lD σ, uD σ, qD σ, wD σ), (nE σ, kE σ, bE σ, lE σ), (tT σ, dT σ, aT σ, rT σ, hT σ, xT σ))
def ntS (c x q : Int32) (σ : St) : St := ((nB σ, vB σ, hB σ, pB σ, mB σ), (nD σ, bD σ, lD σ, uD σ, qD σ, wD σ), (evc (nE σ), psh (kE σ) c, psh (bE σ) x, psh (lE σ) q), (tT σ, dT σ, aT σ, rT σ, hT σ, xT σ))
def leavS (k : Nat) (σ : St) : St := ((nB σ, vB σ, hB σ, pB σ, upd (mB σ) k 0), (nD σ, bD σ, lD σ, uD σ, qD σ, wD σ), (evc (nE σ), psh (kE σ) 100, psh (bE σ) (nI k), psh (lE σ) (-1)), (tT σ, dT σ + 1, aT σ, rT σ, hT σ, xT σ))
def defect1 (k : Nat) (σ : St) : St := if mB σ k = 0 then σ else if wet (vB σ) k = true then (if 25 ≤ rdeg (hB σ k) (vB σ k) then σ else leavS k σ) else leavS k σ
def defectN (σ : St) : Nat → St
  | 0 => σ
  | k + 1 => defect1 k (defectN σ k)
def defS (σ : St) : St := defectN σ (nB σ)
def plS (σ : St) : Nat → Bool := plz (vB σ) (hB σ) (bD σ) (lD σ) (uD σ)
def obsS (σ : St) : St := ((nB σ, vB σ, hB σ, pB σ, mB σ), (nD σ, bD σ, lD σ, uD σ, obsQ (plS σ) (qD σ) (wD σ) (nD σ), obsW (plS σ) (wD σ) (nD σ)), (nE σ, kE σ, bE σ, lE σ), (tT σ, dT σ, aT σ, rT σ, hT σ, xT σ))
def incT (σ : St) : St := ((nB σ, vB σ, hB σ, pB σ, mB σ), (nD σ, bD σ, lD σ, uD σ, qD σ, wD σ), (nE σ, kE σ, bE σ, lE σ), (tT σ + 1, dT σ, aT σ, rT σ, hT σ, xT σ))
def tickS (σ : St) : St := obsS (incT (defS (shaS (draS (losS σ)))))
def tickN (σ : St) : Nat → St
  | 0 => σ
  | k + 1 => tickS (tickN σ k)
theorem lose1_nB (k : Nat) (σ : St) : nB (lose1 k σ) = nB σ := by unfold lose1; split <;> rfl
theorem loseN_nB (σ : St) : ∀ k, nB (loseN σ k) = nB σ
  | 0 => rfl
  | k + 1 => (lose1_nB k _).trans (loseN_nB σ k)
theorem drain1_nB (k : Nat) (σ : St) : nB (drain1 k σ) = nB σ := by unfold drain1; split <;> first | rfl | (split <;> rfl)
theorem drainN_nB (σ : St) : ∀ k, nB (drainN σ k) = nB σ
  | 0 => rfl
  | k + 1 => (drain1_nB k _).trans (drainN_nB σ k)
theorem defect1_nB (k : Nat) (σ : St) : nB (defect1 k σ) = nB σ := by
  unfold defect1
  split
  · rfl
  · split
    · split <;> rfl
    · rfl
theorem defectN_nB (σ : St) : ∀ k, nB (defectN σ k) = nB σ
  | 0 => rfl
  | k + 1 => (defect1_nB k _).trans (defectN_nB σ k)
theorem ok_lose1 {σ : St} (h : Ok σ) (k : Nat) : Ok (lose1 k σ) := by unfold lose1; split <;> exact h
theorem ok_loseN {σ : St} (h : Ok σ) : ∀ k, Ok (loseN σ k)
  | 0 => h
  | k + 1 => ok_lose1 (ok_loseN h k) k
theorem ok_drain1 {σ : St} (h : Ok σ) (k : Nat) : Ok (drain1 k σ) := by unfold drain1; split <;> first | exact h | (split <;> exact h)
theorem ok_drainN {σ : St} (h : Ok σ) : ∀ k, Ok (drainN σ k)
  | 0 => h
  | k + 1 => ok_drain1 (ok_drainN h k) k
theorem ok_shaS {σ : St} (h : Ok σ) : Ok (shaS σ) := h
theorem czN_psh {f : Nat → Int32} {x : Int32} (h : czN 10 f) (hx : vp_nar .char x = x) : czN 10 (psh f x) := by
  intro j hj
  unfold psh
  split
  · exact hx
  · exact h (j - 1) (by omega)
theorem ok_ntS {σ : St} (h : Ok σ) {c : Int32} (hc : vp_nar .char c = c) (x q : Int32) : Ok (ntS c x q σ) := ⟨h.1, h.2.1, evc_le _, h.2.2.2.1, h.2.2.2.2.1, h.2.2.2.2.2.1, h.2.2.2.2.2.2.1, czN_psh h.2.2.2.2.2.2.2 hc⟩
theorem ok_leavS {σ : St} (h : Ok σ) (k : Nat) : Ok (leavS k σ) := ⟨h.1, h.2.1, evc_le _, h.2.2.2.1, h.2.2.2.2.1, bzN_upd h.2.2.2.2.2.1 rfl, h.2.2.2.2.2.2.1, czN_psh h.2.2.2.2.2.2.2 rfl⟩
theorem ok_defect1 {σ : St} (h : Ok σ) (k : Nat) : Ok (defect1 k σ) := by
  unfold defect1
  split
  · exact h
  · split
    · split
      · exact h
      · exact ok_leavS h k
    · exact ok_leavS h k
theorem ok_defectN {σ : St} (h : Ok σ) : ∀ k, Ok (defectN σ k)
  | 0 => h
  | k + 1 => ok_defect1 (ok_defectN h k) k
theorem ok_incT {σ : St} (h : Ok σ) : Ok (incT σ) := h
theorem obsW_bz {p : Nat → Bool} {dw : Nat → Int32} {n : Nat} (h : bzN n dw) : ∀ k, bzN n (obsW p dw k)
  | 0 => h
  | k + 1 => bzN_upd (obsW_bz h k) (by split <;> rfl)
theorem ok_obsS {σ : St} (h : Ok σ) : Ok (obsS σ) := ⟨h.1, h.2.1, h.2.2.1, h.2.2.2.1, h.2.2.2.2.1, h.2.2.2.2.2.1, obsW_bz h.2.2.2.2.2.2.1 _, h.2.2.2.2.2.2.2⟩
theorem ok_tickS {σ : St} (h : Ok σ) : Ok (tickS σ) := ok_obsS (ok_incT (ok_defectN (ok_shaS (ok_drainN (ok_loseN h _) _)) _))
theorem ok_tickN {σ : St} (h : Ok σ) : ∀ k, Ok (tickN σ k)
  | 0 => h
  | k + 1 => ok_tickS (ok_tickN h k)
theorem m_ixp {b : Int32} {N : Nat} (hN : N < 2147483648) (h0 : inI b (nI N) = true) : b = nI (bx b) ∧ bx b < N := by
  have h := inI_iff.mp h0
  obtain ⟨j, h1, h2⟩ := nI_of h.1
  subst h2
  have e : bx (nI j) = j := nI_clamp h1
  rw [e]
  refine ⟨rfl, ?_⟩
  rcases Nat.lt_or_ge j N with q | q
  · exact q
  · exact absurd (nI_le q h1) h.2
def plcS (σ : St) : St := ((nB σ + 1, vB σ, hB σ, upd (pB σ) (nB σ) 1, mB σ), (nD σ, bD σ, lD σ, uD σ, qD σ, wD σ), (nE σ, kE σ, bE σ, lE σ), (tT σ, dT σ, aT σ, rT σ, hT σ, xT σ))
def filF (N : Nat) (v : Nat → Int32) (b t q : Int32) : Int32 :=
  if inI b (nI N) = true then (if tapB t = true then (if inR q 1 20 = true then (if 100 < v (bx b) + q then 5 else 0) else 2) else 2) else 1
def plgF (N : Nat) (b : Int32) : Int32 := if inI b (nI N) = true then 0 else 1
def traF (N : Nat) (v : Nat → Int32) (b t q : Int32) : Int32 :=
  if inI b (nI N) = true then (if inI t (nI N) = true then (if b = t then 2 else if inR q 1 99 = true then (if v (bx b) < q then 4 else if 100 < v (bx t) + q then 5 else 0) else 2) else 1) else 1
def dukF (N M : Nat) (b t q : Int32) : Int32 :=
  if inI b (nI N) = true then (if t < 0 then 2 else if 99 < q then 2 else if q < t then 2 else if M < 6 then 0 else 3) else 1
def admF (N : Nat) (v h m : Nat → Int32) (b : Int32) : Int32 :=
  if inI b (nI N) = true then (if m (bx b) = 0 then (if wet v (bx b) = true then (if inR (rdeg (h (bx b)) (v (bx b))) 30 45 = true then 0 else 5) else 5) else 3) else 1
def disF (N : Nat) (m : Nat → Int32) (b : Int32) : Int32 :=
  if inI b (nI N) = true then (if m (bx b) = 0 then 3 else 0) else 1
def tikF (n : Int32) : Int32 := if inR n 1 20 = true then 0 else 2
def pluS (j : Nat) (x : Int32) (σ : St) : St := ((nB σ, vB σ, hB σ, upd (pB σ) j x, mB σ), (nD σ, bD σ, lD σ, uD σ, qD σ, wD σ), (nE σ, kE σ, bE σ, lE σ), (tT σ, dT σ, aT σ, rT σ, hT σ, xT σ))
def admS (j : Nat) (σ : St) : St := ((nB σ, vB σ, hB σ, pB σ, upd (mB σ) j 1), (nD σ, bD σ, lD σ, uD σ, qD σ, wD σ), (evc (nE σ), psh (kE σ) 106, psh (bE σ) (nI j), psh (lE σ) (-1)), (tT σ, dT σ, aT σ, rT σ, hT σ, xT σ))
def disS (j : Nat) (σ : St) : St := ((nB σ, vB σ, hB σ, pB σ, upd (mB σ) j 0), (nD σ, bD σ, lD σ, uD σ, qD σ, wD σ), (evc (nE σ), psh (kE σ) 108, psh (bE σ) (nI j), psh (lE σ) (-1)), (tT σ, dT σ, aT σ, rT σ, hT σ, xT σ))
def movS (i j : Nat) (q u : Int32) (σ : St) : St := ((nB σ, upd (upd (vB σ) i (vB σ i - q)) j (upd (vB σ) i (vB σ i - q) j + q), upd (upd (hB σ) i (hB σ i - u)) j (upd (hB σ) i (hB σ i - u) j + u), pB σ, mB σ), (nD σ, bD σ, lD σ, uD σ, qD σ, wD σ), (nE σ, kE σ, bE σ, lE σ), (tT σ, dT σ, aT σ, rT σ, hT σ, xT σ))
def traS (i j : Nat) (q : Int32) (σ : St) : St := obsS (ntS 112 (nI i) q (movS i j q (heatOf (vB σ) (hB σ) i q) σ))
def dukS (b t q : Int32) (σ : St) : St := ((nB σ, vB σ, hB σ, pB σ, mB σ), (nD σ + 1, upd (bD σ) (nD σ) b, upd (lD σ) (nD σ) t, upd (uD σ) (nD σ) q, qD σ, upd (wD σ) (nD σ) (if plz (vB σ) (hB σ) (upd (bD σ) (nD σ) b) (upd (lD σ) (nD σ) t) (upd (uD σ) (nD σ) q) (nD σ) = true then 1 else 0)), (nE σ, kE σ, bE σ, lE σ), (tT σ, dT σ, aT σ, rT σ, hT σ, xT σ))
def fillU (j : Nat) (q u : Int32) (σ : St) : St := ((nB σ, upd (vB σ) j (vB σ j + q), upd (hB σ) j (hB σ j + u), pB σ, mB σ), (nD σ, bD σ, lD σ, uD σ, qD σ, wD σ), (nE σ, kE σ, bE σ, lE σ), (tT σ, dT σ, aT σ + q, rT σ, hT σ + u, xT σ))
def filS (j : Nat) (q u : Int32) (σ : St) : St := obsS (ntS 116 (nI j) q (fillU j q u σ))
/-- the 17 cells of a State, at the addresses a -/
def sWd (cy : Nat → ClassId) (a : Nat → Nat) (σ : St) : va_W := [(a 0, .inr (9, [.ref (a 1), .ref (a 2), .ref (a 3), .ref (a 4)])), (a 1, .inr (4, [.int (nI (nB σ)), .ref (a 5), .ref (a 6), .ref (a 7), .ref (a 8)])), (a 5, .inl (cy 2, 5, .inl (vB σ))), (a 6, .inl (cy 2, 5, .inl (hB σ))), (a 7, .inl (cy 3, 5, .inl (pB σ))), (a 8, .inl (cy 3, 5, .inl (mB σ))), (a 2, .inr (5, [.int (nI (nD σ)), .ref (a 9), .ref (a 10), .ref (a 11), .ref (a 12), .ref (a 13)])), (a 9, .inl (cy 2, 6, .inl (bD σ))), (a 10, .inl (cy 2, 6, .inl (lD σ))), (a 11, .inl (cy 2, 6, .inl (uD σ))), (a 12, .inl (cy 2, 6, .inl (qD σ))), (a 13, .inl (cy 3, 6, .inl (wD σ))), (a 3, .inr (6, [.int (nI (nE σ)), .ref (a 14), .ref (a 15), .ref (a 16)])), (a 14, .inl (cy 1, 10, .inl (kE σ))), (a 15, .inl (cy 2, 10, .inl (bE σ))), (a 16, .inl (cy 2, 10, .inl (lE σ))), (a 4, .inr (10, [.int (tT σ), .int (dT σ), .int (aT σ), .int (rT σ), .int (hT σ), .int (xT σ)]))]
theorem sWd_mk (cy : Nat → ClassId) (a : Nat → Nat) (N M E : Nat) (v h p m b l u q w ek eb el : Nat → Int32) (t1 t2 t3 t4 t5 t6 : Int32) : sWd cy a ((N, v, h, p, m), (M, b, l, u, q, w), (E, ek, eb, el), (t1, t2, t3, t4, t5, t6)) = [(a 0, .inr (9, [.ref (a 1), .ref (a 2), .ref (a 3), .ref (a 4)])), (a 1, .inr (4, [.int (nI N), .ref (a 5), .ref (a 6), .ref (a 7), .ref (a 8)])), (a 5, .inl (cy 2, 5, .inl v)), (a 6, .inl (cy 2, 5, .inl h)), (a 7, .inl (cy 3, 5, .inl p)), (a 8, .inl (cy 3, 5, .inl m)), (a 2, .inr (5, [.int (nI M), .ref (a 9), .ref (a 10), .ref (a 11), .ref (a 12), .ref (a 13)])), (a 9, .inl (cy 2, 6, .inl b)), (a 10, .inl (cy 2, 6, .inl l)), (a 11, .inl (cy 2, 6, .inl u)), (a 12, .inl (cy 2, 6, .inl q)), (a 13, .inl (cy 3, 6, .inl w)), (a 3, .inr (6, [.int (nI E), .ref (a 14), .ref (a 15), .ref (a 16)])), (a 14, .inl (cy 1, 10, .inl ek)), (a 15, .inl (cy 2, 10, .inl eb)), (a 16, .inl (cy 2, 10, .inl el)), (a 4, .inr (10, [.int t1, .int t2, .int t3, .int t4, .int t5, .int t6]))] := rfl
theorem sWd_fst (cy : Nat → ClassId) (a : Nat → Nat) (σ τ : St) : (sWd cy a σ).map Prod.fst = (sWd cy a τ).map Prod.fst := rfl
theorem sWd_D {cy : Nat → ClassId} {a : Nat → Nat} {σ τ : St} {A : Nat → Prop} (h : va_D A (sWd cy a σ)) : va_D A (sWd cy a τ) := m_Dsame h (sWd_fst cy a τ σ)
