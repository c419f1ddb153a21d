theorem inv_fil {n j : Nat} {t q : Int32} {σ : St} (h : Inv n σ) (hn : n + 1 < 2147483648) (hj : j < nB σ) (ht : tapB t = true) (hq : inR q 1 20 = true) (hv : ¬ 100 < vB σ j + q) : Inv (n + 1) (filS j q (q * (10 + 30 * t)) σ) := by
  have hN := h.1.1
  obtain ⟨k, k1, k2⟩ := tap_ix ht
  obtain ⟨q1, q2⟩ := inR_iff.mp hq
  rw [Int32.lt_iff_toInt_lt, show (1 : Int32).toInt = 1 from by decide] at q1
  rw [Int32.lt_iff_toInt_lt, show (20 : Int32).toInt = 20 from by decide] at q2
  obtain ⟨a, b, -, -⟩ := h.2.1 j (by omega)
  have e0 : (vB σ j + q).toInt = (vB σ j).toInt + q.toInt := ti_add rfl rfl (by omega) (by omega)
  rw [Int32.lt_iff_toInt_lt, show (100 : Int32).toInt = 100 from by decide, e0] at hv
  have e1 : (10 + 30 * t).toInt = 10 + 30 * (k : Int) := by
    subst k2
    exact ti_add (by decide) (ti_mul (by decide) (nI_toInt (by omega)) (by omega) (by omega)) (by omega) (by omega)
  have hk : (k : Int) = 0 ∨ (k : Int) = 1 ∨ (k : Int) = 2 := by omega
  have e2 : (q * (10 + 30 * t)).toInt = q.toInt * (10 + 30 * (k : Int)) := by
    refine ti_mul rfl e1 ?_ ?_ <;> rcases hk with z | z | z <;> rw [z] <;> omega
  refine inv_filS h hn hj (by omega) (wt_into (h.2.1 j (by omega)) (by omega) (by omega) ?_ ?_) <;> rw [e2] <;> rcases hk with z | z | z <;> rw [z] <;> omega
theorem inv_tra {n i j : Nat} {q : Int32} {σ : St} (h : Inv n σ) (hn : n + 1 < 2147483648) (hi : i < nB σ) (hj : j < nB σ) (hij : ¬ i = j) (hq : inR q 1 99 = true) (h1 : ¬ vB σ i < q) (h2 : ¬ 100 < vB σ j + q) : Inv (n + 1) (traS i j q σ) := by
  have hN := h.1.1
  obtain ⟨q1, q2⟩ := inR_iff.mp hq
  rw [Int32.lt_iff_toInt_lt, show (1 : Int32).toInt = 1 from by decide] at q1
  rw [Int32.lt_iff_toInt_lt, show (99 : Int32).toInt = 99 from by decide] at q2
  rw [Int32.lt_iff_toInt_lt] at h1
  obtain ⟨a, b, -, -⟩ := h.2.1 j (by omega)
  have e0 : (vB σ j + q).toInt = (vB σ j).toInt + q.toInt := ti_add rfl rfl (by omega) (by omega)
  rw [Int32.lt_iff_toInt_lt, show (100 : Int32).toInt = 100 from by decide, e0] at h2
  exact inv_traS h hn hi hj hij (by omega) (by omega) (by omega)
/-! what no fault tells of the arguments; a command of a script on a State -/
theorem plgF_0 {N : Nat} {b : Int32} (hN : N ≤ 5) (h : plgF N b = 0) : b = nI (bx b) ∧ bx b < N := by
  unfold plgF at h
  by_cases h1 : inI b (nI N) = true
  · exact m_ixp (by omega) h1
  · rw [if_neg h1] at h; exact absurd h (by decide)
theorem filF_0 {N : Nat} {v : Nat → Int32} {b t q : Int32} (hN : N ≤ 5) (h : filF N v b t q = 0) : (b = nI (bx b) ∧ bx b < N) ∧ tapB t = true ∧ inR q 1 20 = true ∧ ¬ 100 < v (bx b) + q := by
  unfold filF at h
  by_cases h1 : inI b (nI N) = true
  · rw [if_pos h1] at h
    by_cases h2 : tapB t = true
    · rw [if_pos h2] at h
      by_cases h3 : inR q 1 20 = true
      · rw [if_pos h3] at h
        by_cases h4 : 100 < v (bx b) + q
        · rw [if_pos h4] at h; exact absurd h (by decide)
        · exact ⟨m_ixp (by omega) h1, h2, h3, h4⟩
      · rw [if_neg h3] at h; exact absurd h (by decide)
    · rw [if_neg h2] at h; exact absurd h (by decide)
  · rw [if_neg h1] at h; exact absurd h (by decide)
theorem traF_0 {N : Nat} {v : Nat → Int32} {b t q : Int32} (hN : N ≤ 5) (h : traF N v b t q = 0) : (b = nI (bx b) ∧ bx b < N) ∧ (t = nI (bx t) ∧ bx t < N) ∧ ¬ b = t ∧ inR q 1 99 = true ∧ ¬ v (bx b) < q ∧ ¬ 100 < v (bx t) + q := by
  unfold traF at h
  by_cases h1 : inI b (nI N) = true
  · rw [if_pos h1] at h
    by_cases h2 : inI t (nI N) = true
    · rw [if_pos h2] at h
      by_cases h5 : b = t
      · rw [if_pos h5] at h; exact absurd h (by decide)
      · rw [if_neg h5] at h
        by_cases h3 : inR q 1 99 = true
        · rw [if_pos h3] at h
          by_cases h6 : v (bx b) < q
          · rw [if_pos h6] at h; exact absurd h (by decide)
          · rw [if_neg h6] at h
            by_cases h4 : 100 < v (bx t) + q
            · rw [if_pos h4] at h; exact absurd h (by decide)
            · exact ⟨m_ixp (by omega) h1, m_ixp (by omega) h2, h5, h3, h6, h4⟩
        · rw [if_neg h3] at h; exact absurd h (by decide)
    · rw [if_neg h2] at h; exact absurd h (by decide)
  · rw [if_neg h1] at h; exact absurd h (by decide)
theorem dukF_0 {N M : Nat} {b t q : Int32} (hN : N ≤ 5) (h : dukF N M b t q = 0) : (b = nI (bx b) ∧ bx b < N) ∧ dOK b ∧ ¬ t < 0 ∧ ¬ 99 < q ∧ ¬ q < t ∧ M < 6 := by
  unfold dukF at h
  by_cases h1 : inI b (nI N) = true
  · rw [if_pos h1] at h
    have h9 := m_ixp (by omega) h1
    by_cases h2 : t < 0
    · rw [if_pos h2] at h; exact absurd h (by decide)
    · rw [if_neg h2] at h
      by_cases h3 : 99 < q
      · rw [if_pos h3] at h; exact absurd h (by decide)
      · rw [if_neg h3] at h
        by_cases h4 : q < t
        · rw [if_pos h4] at h; exact absurd h (by decide)
        · rw [if_neg h4] at h
          by_cases h5 : M < 6
          · exact ⟨h9, ⟨h9.1, by omega⟩, h2, h3, h4, h5⟩
          · rw [if_neg h5] at h; exact absurd h (by decide)
  · rw [if_neg h1] at h; exact absurd h (by decide)
theorem admF_0 {N : Nat} {v h m : Nat → Int32} {b : Int32} (hN : N ≤ 5) (hF : admF N v h m b = 0) : (b = nI (bx b) ∧ bx b < N) ∧ m (bx b) = 0 ∧ wet v (bx b) = true ∧ inR (rdeg (h (bx b)) (v (bx b))) 30 45 = true := by
  unfold admF at hF
  by_cases h1 : inI b (nI N) = true
  · rw [if_pos h1] at hF
    by_cases h2 : m (bx b) = 0
    · rw [if_pos h2] at hF
      by_cases h3 : wet v (bx b) = true
      · rw [if_pos h3] at hF
        by_cases h4 : inR (rdeg (h (bx b)) (v (bx b))) 30 45 = true
        · exact ⟨m_ixp (by omega) h1, h2, h3, h4⟩
        · rw [if_neg h4] at hF; exact absurd hF (by decide)
      · rw [if_neg h3] at hF; exact absurd hF (by decide)
    · rw [if_neg h2] at hF; exact absurd hF (by decide)
  · rw [if_neg h1] at hF; exact absurd hF (by decide)
theorem disF_0 {N : Nat} {m : Nat → Int32} {b : Int32} (hN : N ≤ 5) (hF : disF N m b = 0) : (b = nI (bx b) ∧ bx b < N) ∧ ¬ m (bx b) = 0 := by
  unfold disF at hF
  by_cases h1 : inI b (nI N) = true
  · rw [if_pos h1] at hF
    by_cases h2 : m (bx b) = 0
    · rw [if_pos h2] at hF; exact absurd hF (by decide)
    · exact ⟨m_ixp (by omega) h1, h2⟩
  · rw [if_neg h1] at hF; exact absurd hF (by decide)
theorem bx_of {b : Int32} {lo hi : Nat} (hl : lo < 1000) (hh : hi < 1000) (h : inR b (nI lo) (nI hi) = true) : b = nI (bx b) ∧ lo ≤ bx b ∧ bx b ≤ hi := by
  obtain ⟨h1, h2⟩ := inR_iff.mp h
  rw [Int32.lt_iff_toInt_lt, nI_toInt (by omega)] at h1 h2
  obtain ⟨n, n1, n2⟩ := nI_of (show ¬ b < 0 from fun z => by
    rw [Int32.lt_iff_toInt_lt, Int32.toInt_zero] at z
    omega)
  subst n2
  have e : bx (nI n) = n := nI_clamp n1
  rw [nI_toInt (by omega)] at h1 h2
  rw [e]
  exact ⟨rfl, by omega, by omega⟩
theorem tikF_0 {n : Int32} (h : tikF n = 0) : n = nI (bx n) ∧ 1 ≤ bx n ∧ bx n ≤ 20 := by
  unfold tikF at h
  by_cases h1 : inR n 1 20 = true
  · exact bx_of (lo := 1) (hi := 20) (by omega) (by omega) h1
  · rw [if_neg h1] at h; exact absurd h (by decide)
def fltC (τ : St) (k a b c : Int32) : Int32 :=
  if k = 0 then (if nB τ < 5 then 0 else 3) else if k = 1 then filF (nB τ) (vB τ) a b c else if k = 2 then plgF (nB τ) a else if k = 3 then traF (nB τ) (vB τ) a b c else if k = 4 then dukF (nB τ) (nD τ) a b c else if k = 5 then admF (nB τ) (vB τ) (hB τ) (mB τ) a else if k = 6 then disF (nB τ) (mB τ) a else tikF a
def appC (τ : St) (k a b c : Int32) : St :=
  if k = 0 then plcS τ else if k = 1 then filS (bx a) c (c * (10 + 30 * b)) τ else if k = 2 then pluS (bx a) (if b = 1 then 1 else 0) τ else if k = 3 then traS (bx a) (bx b) c τ else if k = 4 then dukS a b c τ else if k = 5 then admS (bx a) τ else if k = 6 then disS (bx a) τ else tickN τ (bx a)
theorem sw7 {v : Int32} (a : ¬ v = 0) (b : ¬ v = 1) (c : ¬ v = 2) (d : ¬ v = 3) (e : ¬ v = 4) (g : ¬ v = 5) (h : ¬ v = 6) : v.toInt < 0 ∨ 6 < v.toInt := by
  rw [← Int32.toInt_inj, show (0 : Int32).toInt = 0 from by decide] at a
  rw [← Int32.toInt_inj, show (1 : Int32).toInt = 1 from by decide] at b
  rw [← Int32.toInt_inj, show (2 : Int32).toInt = 2 from by decide] at c
  rw [← Int32.toInt_inj, show (3 : Int32).toInt = 3 from by decide] at d
  rw [← Int32.toInt_inj, show (4 : Int32).toInt = 4 from by decide] at e
  rw [← Int32.toInt_inj, show (5 : Int32).toInt = 5 from by decide] at g
  rw [← Int32.toInt_inj, show (6 : Int32).toInt = 6 from by decide] at h
  omega
theorem if5_0 {N : Nat} (h : (if N < 5 then (0 : Int32) else 3) = 0) : N < 5 := by
  by_cases z : N < 5
  · exact z
  · rw [if_neg z] at h; exact absurd h (by decide)
/-- each kind of command -/
theorem appC_inv {n : Nat} {τ : St} {k a b c : Int32} (h : Inv n τ) (hn : n + 21 < 2147483648) (hF : fltC τ k a b c = 0) : Inv (n + 20) (appC τ k a b c) := by
  have mono : ∀ {m1 : Nat} {σ : St}, m1 ≤ n + 20 → Inv m1 σ → Inv (n + 20) σ := by
    intro m1 σ hm hi
    obtain ⟨i1, i2, i3, i4, i5⟩ := hi
    exact ⟨i1, i2, i3, fun j hj => ⟨(i4 j hj).1, by have := (i4 j hj).2.1; omega, (i4 j hj).2.2⟩, i5⟩
  have hN := h.1.1
  unfold fltC at hF
  unfold appC
  by_cases k0 : k = 0
  · rw [if_pos k0] at hF ⊢
    exact mono (by omega) (inv_plcS h (if5_0 hF))
  rw [if_neg k0] at hF ⊢
  by_cases k1 : k = 1
  · rw [if_pos k1] at hF ⊢
    obtain ⟨⟨e1, e2⟩, e3, e4, e5⟩ := filF_0 hN hF
    exact mono (by omega) (inv_fil h (by omega) e2 e3 e4 e5)
  rw [if_neg k1] at hF ⊢
  by_cases k2 : k = 2
  · rw [if_pos k2] at hF ⊢
    exact mono (by omega) (inv_pluS h (by split <;> rfl))
  rw [if_neg k2] at hF ⊢
  by_cases k3 : k = 3
  · rw [if_pos k3] at hF ⊢
    obtain ⟨⟨e1, e2⟩, ⟨e3, e4⟩, e5, e6, e7, e8⟩ := traF_0 hN hF
    exact mono (by omega) (inv_tra h (by omega) e2 e4 (fun z => e5 (by rw [e1, e3, z])) e6 e7 e8)
  rw [if_neg k3] at hF ⊢
  by_cases k4 : k = 4
  · rw [if_pos k4] at hF ⊢
    obtain ⟨-, e3, -, -, -, e6⟩ := dukF_0 hN hF
    exact mono (by omega) (inv_dukS h e6 e3)
  rw [if_neg k4] at hF ⊢
  by_cases k5 : k = 5
  · rw [if_pos k5] at hF ⊢
    obtain ⟨⟨-, e2⟩, -⟩ := admF_0 hN hF
    exact mono (by omega) (inv_admS h e2)
  rw [if_neg k5] at hF ⊢
  by_cases k6 : k = 6
  · rw [if_pos k6] at hF ⊢
    exact mono (by omega) (inv_disS h _)
  rw [if_neg k6] at hF ⊢
  obtain ⟨-, e2, e3⟩ := tikF_0 hF
  exact mono (by omega) (inv_tickN h (bx a) (by omega))
/-- the commands from place i on, d of them: the State behind them, and the one that fails -/
def rnC (g : Cs) : Nat → Nat → St → St × Option Nat
  | _, 0, τ => (τ, none)
  | i, d + 1, τ => if fltC τ (g.2.1 i) (g.2.2.1 i) (g.2.2.2.1 i) (g.2.2.2.2 i) = 0 then rnC g (i + 1) d (appC τ (g.2.1 i) (g.2.2.1 i) (g.2.2.2.1 i) (g.2.2.2.2 i)) else (τ, some i)
theorem rnC_go {g : Cs} {i d : Nat} {τ : St} {R : St × Option Nat} (h : fltC τ (g.2.1 i) (g.2.2.1 i) (g.2.2.2.1 i) (g.2.2.2.2 i) = 0) (hR : rnC g i (d + 1) τ = R) : rnC g (i + 1) d (appC τ (g.2.1 i) (g.2.2.1 i) (g.2.2.2.1 i) (g.2.2.2.2 i)) = R := (if_pos h).symm.trans hR
theorem rnC_no {g : Cs} {i d : Nat} {τ : St} {R : St × Option Nat} (h : ¬ fltC τ (g.2.1 i) (g.2.2.1 i) (g.2.2.2.1 i) (g.2.2.2.2 i) = 0) (hR : rnC g i (d + 1) τ = R) : (τ, some i) = R := (if_neg h).symm.trans hR
set_option maxRecDepth 100000 in
set_option maxHeartbeats 1000000 in
theorem c_X7_commandFault (l : Launch) (G : va_G) (cy : Nat → ClassId) (aX : Nat) (na tr sn : Nat → Nat) (hs : Int32) (hi : Nat) (ep fc : Int32) (ob sc tx kd fs sd td LN n : Nat) (x : Lx) (gk g1 g2 g3 : Nat → Int32) (τ : St) (i : Nat) (ho : Ok τ) (hi13 : i < 13) : RO l yX7_commandFault wsX7_commandFault { frames := 3, cells := 0, slots := 0, locals := 65 } (PB G cy (fl [[(aX, .inr (11, [.ref (na 0), .ref (tr 0), .ref (sn 0), .int hs, .ref hi, .ref sc, .int ep, .int fc, .ref ob]))], [(sc, .inr (8, [.ref tx, .int (nI LN), .int (nI x.1), .int (bI x.2), .int (nI n), .ref kd, .ref fs, .ref sd, .ref td]))], [(kd, .inl (cy 2, 13, .inl gk))], [(fs, .inl (cy 2, 13, .inl g1))], [(sd, .inl (cy 2, 13, .inl g2))], [(td, .inl (cy 2, 13, .inl g3))], sWd cy tr τ])) [.ref aX, .int (nI i)] (some (.int (fltC τ (gk i) (g1 i) (g2 i) (g3 i)))) := by
  refine RO.ofW (cc := cX7_commandFault) (maxL := 5) (ret := (some .int)) (by decide) rfl (Nat.le_of_ble_eq_true rfl) ?_
  intro p e s m below meth cq S9 hr hlocks hPB ls hl
  obtain ⟨hxq, hb, hml, hown, hts⟩ := id S9
  obtain ⟨hP, hK⟩ := hPB
  have hl : lv_has ls 5 [(0, .ref aX), (1, .int (nI i))] := hl
  have hi8 : ∀ w ∈ wsX40, w ∈ wsX7_commandFault := by decide +kernel
  have hi11 : ∀ w ∈ wsX70, w ∈ wsX7_commandFault := by decide +kernel
  have hf16 := hts (.fieldLink RX7 16 "BathLeague" "trial" "LBathLeague$State;") (by decide +kernel)
  have hf36 := hts (.fieldLink RX7 36 "BathLeague" "script" "LBathLeague$Script;") (by decide +kernel)
  have hf425 := hts (.fieldLink RX7 425 "BathLeague$Script" "first" "[I") (by decide +kernel)
  have hf428 := hts (.fieldLink RX7 428 "BathLeague$Script" "second" "[I") (by decide +kernel)
  have hf431 := hts (.fieldLink RX7 431 "BathLeague$Script" "third" "[I") (by decide +kernel)
  have hf434 := hts (.fieldLink RX7 434 "BathLeague$Script" "kind" "[I") (by decide +kernel)
  refine lv_aload_n hxq hb dX7_commandFault_0 rfl (lv_at hl 0 rfl) ?_
  refine va_get (D := G) (ci := 11) (v := .ref sc) (C := RX7) (T := TX7) (N := 9) hxq hb hts hi11 hown hK.1 hP 0 rfl rfl 5 (by decide) hf36 (fun _ h9 => h9) rfl dX7_commandFault_1 ?_
  refine va_get (D := G) (ci := 8) (v := .ref fs) (C := RX4) (T := TX4) (N := 9) hxq hb hts hi8 hown hK.1 hP 1 rfl rfl 6 (by decide) hf425 (fun _ h9 => h9) rfl dX7_commandFault_4 ?_
  refine lv_iload_n hxq hb dX7_commandFault_7 rfl (lv_at hl 1 rfl) ?_
  refine m_iald hxq hb hK hP 3 (k := i) rfl rfl (by omega) (Nat.le_of_ble_eq_true rfl) dX7_commandFault_8 ?_
  refine lv_istore_n (lv' := [(2, .int (g1 i)), (0, .ref aX), (1, .int (nI i))]) hxq hb dX7_commandFault_9 rfl hl (by decide) rfl (fun ls hl => ?_)
  refine lv_aload_n hxq hb dX7_commandFault_10 rfl (lv_at hl 1 rfl) ?_
  refine va_get (D := G) (ci := 11) (v := .ref sc) (C := RX7) (T := TX7) (N := 9) hxq hb hts hi11 hown hK.1 hP 0 rfl rfl 5 (by decide) hf36 (fun _ h9 => h9) rfl dX7_commandFault_11 ?_
  refine va_get (D := G) (ci := 8) (v := .ref sd) (C := RX4) (T := TX4) (N := 9) hxq hb hts hi8 hown hK.1 hP 1 rfl rfl 7 (by decide) hf428 (fun _ h9 => h9) rfl dX7_commandFault_14 ?_
  refine lv_iload_n hxq hb dX7_commandFault_17 rfl (lv_at hl 2 rfl) ?_
  refine m_iald hxq hb hK hP 4 (k := i) rfl rfl (by omega) (Nat.le_of_ble_eq_true rfl) dX7_commandFault_18 ?_
  refine lv_istore_n (lv' := [(3, .int (g2 i)), (2, .int (g1 i)), (0, .ref aX), (1, .int (nI i))]) hxq hb dX7_commandFault_19 rfl hl (by decide) rfl (fun ls hl => ?_)
  refine lv_aload_n hxq hb dX7_commandFault_20 rfl (lv_at hl 2 rfl) ?_
  refine va_get (D := G) (ci := 11) (v := .ref sc) (C := RX7) (T := TX7) (N := 9) hxq hb hts hi11 hown hK.1 hP 0 rfl rfl 5 (by decide) hf36 (fun _ h9 => h9) rfl dX7_commandFault_21 ?_
  refine va_get (D := G) (ci := 8) (v := .ref td) (C := RX4) (T := TX4) (N := 9) hxq hb hts hi8 hown hK.1 hP 1 rfl rfl 8 (by decide) hf431 (fun _ h9 => h9) rfl dX7_commandFault_24 ?_
  refine lv_iload_n hxq hb dX7_commandFault_27 rfl (lv_at hl 3 rfl) ?_
  refine m_iald hxq hb hK hP 5 (k := i) rfl rfl (by omega) (Nat.le_of_ble_eq_true rfl) dX7_commandFault_28 ?_
  refine lv_istore (lv' := [(4, .int (g3 i)), (3, .int (g2 i)), (2, .int (g1 i)), (0, .ref aX), (1, .int (nI i))]) hxq hb dX7_commandFault_29 hl (by decide) rfl (fun ls hl => ?_)
  refine lv_aload_n hxq hb dX7_commandFault_31 rfl (lv_at hl 3 rfl) ?_
  refine va_get (D := G) (ci := 11) (v := .ref sc) (C := RX7) (T := TX7) (N := 9) hxq hb hts hi11 hown hK.1 hP 0 rfl rfl 5 (by decide) hf36 (fun _ h9 => h9) rfl dX7_commandFault_32 ?_
  refine va_get (D := G) (ci := 8) (v := .ref kd) (C := RX4) (T := TX4) (N := 9) hxq hb hts hi8 hown hK.1 hP 1 rfl rfl 5 (by decide) hf434 (fun _ h9 => h9) rfl dX7_commandFault_35 ?_
  refine lv_iload_n hxq hb dX7_commandFault_38 rfl (lv_at hl 4 rfl) ?_
  refine m_iald hxq hb hK hP 2 (k := i) rfl rfl (by omega) (Nat.le_of_ble_eq_true rfl) dX7_commandFault_39 ?_
  by_cases s_0 : gk i = 0
  · refine lv_t0 s_0 ?_
    refine lv_tableIn (off := 44) (tgt := 84) hxq hb dX7_commandFault_40 (by decide) (by decide) (by decide) (by decide) ?_
    refine lv_aload_n hxq hb dX7_commandFault_84 rfl (lv_at hl 3 rfl) ?_
    refine va_get (D := G) (ci := 11) (v := .ref (tr 0)) (C := RX7) (T := TX7) (N := 9) hxq hb hts hi11 hown hK.1 hP 0 rfl rfl 1 (by decide) hf16 (fun _ h9 => h9) rfl dX7_commandFault_85 ?_
    refine c_roVi S9 (c_X5_placeBathFault l G cy tr τ ho) (cwV 0 hts gX7_commandFault_X5_placeBathFault rfl rfl rfl (by decide +kernel) ⟨Nat.le_of_ble_eq_true rfl, Nat.le_of_ble_eq_true rfl⟩) PB.blind (va_recv hK.1 hP (ci := 9) (q0 := 6) rfl rfl) (PB.at hK (PpartC (Wc := [[(aX, .inr (11, [.ref (na 0), .ref (tr 0), .ref (sn 0), .int hs, .ref hi, .ref sc, .int ep, .int fc, .ref ob]))], [(sc, .inr (8, [.ref tx, .int (nI LN), .int (nI x.1), .int (bI x.2), .int (nI n), .ref kd, .ref fs, .ref sd, .ref td]))], [(kd, .inl (cy 2, 13, .inl gk))], [(fs, .inl (cy 2, 13, .inl g1))], [(sd, .inl (cy 2, 13, .inl g2))], [(td, .inl (cy 2, 13, .inl g3))], sWd cy tr τ]) (cs := [sWd cy tr τ]) hP [6] rfl)) rfl hl.1 rfl (Nat.le_of_ble_eq_true rfl) ⟨Nat.zero_le _, Nat.zero_le _⟩ dX7_commandFault_88 ?_
    exact ro_iret hxq hb hr hlocks ((if_pos s_0)).symm dX7_commandFault_91
  · by_cases s_1 : gk i = 1
    · refine lv_t0 s_1 ?_
      refine lv_tableIn (off := 52) (tgt := 92) hxq hb dX7_commandFault_40 (by decide) (by decide) (by decide) (by decide) ?_
      refine lv_aload_n hxq hb dX7_commandFault_92 rfl (lv_at hl 3 rfl) ?_
      refine va_get (D := G) (ci := 11) (v := .ref (tr 0)) (C := RX7) (T := TX7) (N := 9) hxq hb hts hi11 hown hK.1 hP 0 rfl rfl 1 (by decide) hf16 (fun _ h9 => h9) rfl dX7_commandFault_93 ?_
      refine lv_iload_n hxq hb dX7_commandFault_96 rfl (lv_at hl 2 rfl) ?_
      refine lv_iload_n hxq hb dX7_commandFault_97 rfl (lv_at hl 1 rfl) ?_
      refine lv_iload hxq hb dX7_commandFault_98 (lv_at hl 0 rfl) ?_
      refine c_roVi S9 (c_X5_fillFault l G cy tr τ (g1 i) (g2 i) (g3 i) ho) (cwV 3 hts gX7_commandFault_X5_fillFault rfl rfl rfl (by decide +kernel) ⟨Nat.le_of_ble_eq_true rfl, Nat.le_of_ble_eq_true rfl⟩) PB.blind (va_recv hK.1 hP (ci := 9) (q0 := 6) rfl rfl) (PB.at hK (PpartC (Wc := [[(aX, .inr (11, [.ref (na 0), .ref (tr 0), .ref (sn 0), .int hs, .ref hi, .ref sc, .int ep, .int fc, .ref ob]))], [(sc, .inr (8, [.ref tx, .int (nI LN), .int (nI x.1), .int (bI x.2), .int (nI n), .ref kd, .ref fs, .ref sd, .ref td]))], [(kd, .inl (cy 2, 13, .inl gk))], [(fs, .inl (cy 2, 13, .inl g1))], [(sd, .inl (cy 2, 13, .inl g2))], [(td, .inl (cy 2, 13, .inl g3))], sWd cy tr τ]) (cs := [sWd cy tr τ]) hP [6] rfl)) rfl hl.1 rfl (Nat.le_of_ble_eq_true rfl) ⟨Nat.zero_le _, Nat.zero_le _⟩ dX7_commandFault_100 ?_
      exact ro_iret hxq hb hr hlocks (((if_neg s_0).trans (if_pos s_1))).symm dX7_commandFault_103
    · by_cases s_2 : gk i = 2
      · refine lv_t0 s_2 ?_
        refine lv_tableIn (off := 64) (tgt := 104) hxq hb dX7_commandFault_40 (by decide) (by decide) (by decide) (by decide) ?_
        refine lv_aload_n hxq hb dX7_commandFault_104 rfl (lv_at hl 3 rfl) ?_
        refine va_get (D := G) (ci := 11) (v := .ref (tr 0)) (C := RX7) (T := TX7) (N := 9) hxq hb hts hi11 hown hK.1 hP 0 rfl rfl 1 (by decide) hf16 (fun _ h9 => h9) rfl dX7_commandFault_105 ?_
        refine lv_iload_n hxq hb dX7_commandFault_108 rfl (lv_at hl 2 rfl) ?_
        refine c_roVi S9 (c_X5_plugFault l G cy tr τ (g1 i) ho) (cwV 1 hts gX7_commandFault_X5_plugFault rfl rfl rfl (by decide +kernel) ⟨Nat.le_of_ble_eq_true rfl, Nat.le_of_ble_eq_true rfl⟩) PB.blind (va_recv hK.1 hP (ci := 9) (q0 := 6) rfl rfl) (PB.at hK (PpartC (Wc := [[(aX, .inr (11, [.ref (na 0), .ref (tr 0), .ref (sn 0), .int hs, .ref hi, .ref sc, .int ep, .int fc, .ref ob]))], [(sc, .inr (8, [.ref tx, .int (nI LN), .int (nI x.1), .int (bI x.2), .int (nI n), .ref kd, .ref fs, .ref sd, .ref td]))], [(kd, .inl (cy 2, 13, .inl gk))], [(fs, .inl (cy 2, 13, .inl g1))], [(sd, .inl (cy 2, 13, .inl g2))], [(td, .inl (cy 2, 13, .inl g3))], sWd cy tr τ]) (cs := [sWd cy tr τ]) hP [6] rfl)) rfl hl.1 rfl (Nat.le_of_ble_eq_true rfl) ⟨Nat.zero_le _, Nat.zero_le _⟩ dX7_commandFault_109 ?_
        exact ro_iret hxq hb hr hlocks (((if_neg s_0).trans ((if_neg s_1).trans (if_pos s_2)))).symm dX7_commandFault_112
      · by_cases s_3 : gk i = 3
        · refine lv_t0 s_3 ?_
          refine lv_tableIn (off := 73) (tgt := 113) hxq hb dX7_commandFault_40 (by decide) (by decide) (by decide) (by decide) ?_
          refine lv_aload_n hxq hb dX7_commandFault_113 rfl (lv_at hl 3 rfl) ?_
          refine va_get (D := G) (ci := 11) (v := .ref (tr 0)) (C := RX7) (T := TX7) (N := 9) hxq hb hts hi11 hown hK.1 hP 0 rfl rfl 1 (by decide) hf16 (fun _ h9 => h9) rfl dX7_commandFault_114 ?_
          refine lv_iload_n hxq hb dX7_commandFault_117 rfl (lv_at hl 2 rfl) ?_
          refine lv_iload_n hxq hb dX7_commandFault_118 rfl (lv_at hl 1 rfl) ?_
          refine lv_iload hxq hb dX7_commandFault_119 (lv_at hl 0 rfl) ?_
          refine c_roVi S9 (c_X5_transferFault l G cy tr τ (g1 i) (g2 i) (g3 i) ho) (cwV 3 hts gX7_commandFault_X5_transferFault rfl rfl rfl (by decide +kernel) ⟨Nat.le_of_ble_eq_true rfl, Nat.le_of_ble_eq_true rfl⟩) PB.blind (va_recv hK.1 hP (ci := 9) (q0 := 6) rfl rfl) (PB.at hK (PpartC (Wc := [[(aX, .inr (11, [.ref (na 0), .ref (tr 0), .ref (sn 0), .int hs, .ref hi, .ref sc, .int ep, .int fc, .ref ob]))], [(sc, .inr (8, [.ref tx, .int (nI LN), .int (nI x.1), .int (bI x.2), .int (nI n), .ref kd, .ref fs, .ref sd, .ref td]))], [(kd, .inl (cy 2, 13, .inl gk))], [(fs, .inl (cy 2, 13, .inl g1))], [(sd, .inl (cy 2, 13, .inl g2))], [(td, .inl (cy 2, 13, .inl g3))], sWd cy tr τ]) (cs := [sWd cy tr τ]) hP [6] rfl)) rfl hl.1 rfl (Nat.le_of_ble_eq_true rfl) ⟨Nat.zero_le _, Nat.zero_le _⟩ dX7_commandFault_121 ?_
          exact ro_iret hxq hb hr hlocks (((if_neg s_0).trans ((if_neg s_1).trans ((if_neg s_2).trans (if_pos s_3))))).symm dX7_commandFault_124
        · by_cases s_4 : gk i = 4
          · refine lv_t0 s_4 ?_
            refine lv_tableIn (off := 85) (tgt := 125) hxq hb dX7_commandFault_40 (by decide) (by decide) (by decide) (by decide) ?_
            refine lv_aload_n hxq hb dX7_commandFault_125 rfl (lv_at hl 3 rfl) ?_
            refine va_get (D := G) (ci := 11) (v := .ref (tr 0)) (C := RX7) (T := TX7) (N := 9) hxq hb hts hi11 hown hK.1 hP 0 rfl rfl 1 (by decide) hf16 (fun _ h9 => h9) rfl dX7_commandFault_126 ?_
            refine lv_iload_n hxq hb dX7_commandFault_129 rfl (lv_at hl 2 rfl) ?_
            refine lv_iload_n hxq hb dX7_commandFault_130 rfl (lv_at hl 1 rfl) ?_
            refine lv_iload hxq hb dX7_commandFault_131 (lv_at hl 0 rfl) ?_
            refine c_roVi S9 (c_X5_placeDuckFault l G cy tr τ (g1 i) (g2 i) (g3 i) ho) (cwV 3 hts gX7_commandFault_X5_placeDuckFault rfl rfl rfl (by decide +kernel) ⟨Nat.le_of_ble_eq_true rfl, Nat.le_of_ble_eq_true rfl⟩) PB.blind (va_recv hK.1 hP (ci := 9) (q0 := 6) rfl rfl) (PB.at hK (PpartC (Wc := [[(aX, .inr (11, [.ref (na 0), .ref (tr 0), .ref (sn 0), .int hs, .ref hi, .ref sc, .int ep, .int fc, .ref ob]))], [(sc, .inr (8, [.ref tx, .int (nI LN), .int (nI x.1), .int (bI x.2), .int (nI n), .ref kd, .ref fs, .ref sd, .ref td]))], [(kd, .inl (cy 2, 13, .inl gk))], [(fs, .inl (cy 2, 13, .inl g1))], [(sd, .inl (cy 2, 13, .inl g2))], [(td, .inl (cy 2, 13, .inl g3))], sWd cy tr τ]) (cs := [sWd cy tr τ]) hP [6] rfl)) rfl hl.1 rfl (Nat.le_of_ble_eq_true rfl) ⟨Nat.zero_le _, Nat.zero_le _⟩ dX7_commandFault_133 ?_
            exact ro_iret hxq hb hr hlocks (((if_neg s_0).trans ((if_neg s_1).trans ((if_neg s_2).trans ((if_neg s_3).trans (if_pos s_4)))))).symm dX7_commandFault_136
          · by_cases s_5 : gk i = 5
            · refine lv_t0 s_5 ?_
              refine lv_tableIn (off := 97) (tgt := 137) hxq hb dX7_commandFault_40 (by decide) (by decide) (by decide) (by decide) ?_
              refine lv_aload_n hxq hb dX7_commandFault_137 rfl (lv_at hl 3 rfl) ?_
              refine va_get (D := G) (ci := 11) (v := .ref (tr 0)) (C := RX7) (T := TX7) (N := 9) hxq hb hts hi11 hown hK.1 hP 0 rfl rfl 1 (by decide) hf16 (fun _ h9 => h9) rfl dX7_commandFault_138 ?_
              refine lv_iload_n hxq hb dX7_commandFault_141 rfl (lv_at hl 2 rfl) ?_
              refine c_roVi S9 (c_X5_admitFault l G cy tr τ (g1 i) ho) (cwV 1 hts gX7_commandFault_X5_admitFault rfl rfl rfl (by decide +kernel) ⟨Nat.le_of_ble_eq_true rfl, Nat.le_of_ble_eq_true rfl⟩) PB.blind (va_recv hK.1 hP (ci := 9) (q0 := 6) rfl rfl) (PB.at hK (PpartC (Wc := [[(aX, .inr (11, [.ref (na 0), .ref (tr 0), .ref (sn 0), .int hs, .ref hi, .ref sc, .int ep, .int fc, .ref ob]))], [(sc, .inr (8, [.ref tx, .int (nI LN), .int (nI x.1), .int (bI x.2), .int (nI n), .ref kd, .ref fs, .ref sd, .ref td]))], [(kd, .inl (cy 2, 13, .inl gk))], [(fs, .inl (cy 2, 13, .inl g1))], [(sd, .inl (cy 2, 13, .inl g2))], [(td, .inl (cy 2, 13, .inl g3))], sWd cy tr τ]) (cs := [sWd cy tr τ]) hP [6] rfl)) rfl hl.1 rfl (Nat.le_of_ble_eq_true rfl) ⟨Nat.zero_le _, Nat.zero_le _⟩ dX7_commandFault_142 ?_
              exact ro_iret hxq hb hr hlocks (((if_neg s_0).trans ((if_neg s_1).trans ((if_neg s_2).trans ((if_neg s_3).trans ((if_neg s_4).trans (if_pos s_5))))))).symm dX7_commandFault_145
            · by_cases s_6 : gk i = 6
              · refine lv_t0 s_6 ?_
                refine lv_tableIn (off := 106) (tgt := 146) hxq hb dX7_commandFault_40 (by decide) (by decide) (by decide) (by decide) ?_
                refine lv_aload_n hxq hb dX7_commandFault_146 rfl (lv_at hl 3 rfl) ?_
                refine va_get (D := G) (ci := 11) (v := .ref (tr 0)) (C := RX7) (T := TX7) (N := 9) hxq hb hts hi11 hown hK.1 hP 0 rfl rfl 1 (by decide) hf16 (fun _ h9 => h9) rfl dX7_commandFault_147 ?_
                refine lv_iload_n hxq hb dX7_commandFault_150 rfl (lv_at hl 2 rfl) ?_
                refine c_roVi S9 (c_X5_dismissFault l G cy tr τ (g1 i) ho) (cwV 1 hts gX7_commandFault_X5_dismissFault rfl rfl rfl (by decide +kernel) ⟨Nat.le_of_ble_eq_true rfl, Nat.le_of_ble_eq_true rfl⟩) PB.blind (va_recv hK.1 hP (ci := 9) (q0 := 6) rfl rfl) (PB.at hK (PpartC (Wc := [[(aX, .inr (11, [.ref (na 0), .ref (tr 0), .ref (sn 0), .int hs, .ref hi, .ref sc, .int ep, .int fc, .ref ob]))], [(sc, .inr (8, [.ref tx, .int (nI LN), .int (nI x.1), .int (bI x.2), .int (nI n), .ref kd, .ref fs, .ref sd, .ref td]))], [(kd, .inl (cy 2, 13, .inl gk))], [(fs, .inl (cy 2, 13, .inl g1))], [(sd, .inl (cy 2, 13, .inl g2))], [(td, .inl (cy 2, 13, .inl g3))], sWd cy tr τ]) (cs := [sWd cy tr τ]) hP [6] rfl)) rfl hl.1 rfl (Nat.le_of_ble_eq_true rfl) ⟨Nat.zero_le _, Nat.zero_le _⟩ dX7_commandFault_151 ?_
                exact ro_iret hxq hb hr hlocks (((if_neg s_0).trans ((if_neg s_1).trans ((if_neg s_2).trans ((if_neg s_3).trans ((if_neg s_4).trans ((if_neg s_5).trans (if_pos s_6)))))))).symm dX7_commandFault_154
              · refine lv_tableOut (tgt := 155) hxq hb dX7_commandFault_40 (sw7 s_0 s_1 s_2 s_3 s_4 s_5 s_6) (by decide) ?_
                refine lv_aload_n hxq hb dX7_commandFault_155 rfl (lv_at hl 3 rfl) ?_
                refine va_get (D := G) (ci := 11) (v := .ref (tr 0)) (C := RX7) (T := TX7) (N := 9) hxq hb hts hi11 hown hK.1 hP 0 rfl rfl 1 (by decide) hf16 (fun _ h9 => h9) rfl dX7_commandFault_156 ?_
                refine lv_iload_n hxq hb dX7_commandFault_159 rfl (lv_at hl 2 rfl) ?_
                refine c_roVi S9 (c_X5_passTicksFault l G cy tr τ (g1 i) ho) (cwV 1 hts gX7_commandFault_X5_passTicksFault rfl rfl rfl (by decide +kernel) ⟨Nat.le_of_ble_eq_true rfl, Nat.le_of_ble_eq_true rfl⟩) PB.blind (va_recv hK.1 hP (ci := 9) (q0 := 6) rfl rfl) (PB.at hK (PpartC (Wc := [[(aX, .inr (11, [.ref (na 0), .ref (tr 0), .ref (sn 0), .int hs, .ref hi, .ref sc, .int ep, .int fc, .ref ob]))], [(sc, .inr (8, [.ref tx, .int (nI LN), .int (nI x.1), .int (bI x.2), .int (nI n), .ref kd, .ref fs, .ref sd, .ref td]))], [(kd, .inl (cy 2, 13, .inl gk))], [(fs, .inl (cy 2, 13, .inl g1))], [(sd, .inl (cy 2, 13, .inl g2))], [(td, .inl (cy 2, 13, .inl g3))], sWd cy tr τ]) (cs := [sWd cy tr τ]) hP [6] rfl)) rfl hl.1 rfl (Nat.le_of_ble_eq_true rfl) ⟨Nat.zero_le _, Nat.zero_le _⟩ dX7_commandFault_160 ?_
                exact ro_iret hxq hb hr hlocks (((if_neg s_0).trans ((if_neg s_1).trans ((if_neg s_2).trans ((if_neg s_3).trans ((if_neg s_4).trans ((if_neg s_5).trans (if_neg s_6)))))))).symm dX7_commandFault_163

set_option maxRecDepth 100000 in
set_option maxHeartbeats 1000000 in
theorem c_X7_perform (l : Launch) (G : va_G) (cy : Nat → ClassId) (aX : Nat) (na tr sn : Nat → Nat) (hs : Int32) (hi : Nat) (ep fc : Int32) (ob sc tx kd fs sd td LN n : Nat) (x : Lx) (gk g1 g2 g3 : Nat → Int32) (τ : St) (i : Nat) (ho : Ok τ) (hi13 : i < 13) (hF : fltC τ (gk i) (g1 i) (g2 i) (g3 i) = 0) : WC l yX7_perform wsX7_perform { frames := 5, cells := 0, slots := 0, locals := 110 } G (PT G cy (fl [[(aX, .inr (11, [.ref (na 0), .ref (tr 0), .ref (sn 0), .int hs, .ref hi, .ref sc, .int ep, .int fc, .ref ob]))], [(sc, .inr (8, [.ref tx, .int (nI LN), .int (nI x.1), .int (bI x.2), .int (nI n), .ref kd, .ref fs, .ref sd, .ref td]))], [(kd, .inl (cy 2, 13, .inl gk))], [(fs, .inl (cy 2, 13, .inl g1))], [(sd, .inl (cy 2, 13, .inl g2))], [(td, .inl (cy 2, 13, .inl g3))], sWd cy tr τ])) [.ref aX, .int (nI i)] (fl [[(aX, .inr (11, [.ref (na 0), .ref (tr 0), .ref (sn 0), .int hs, .ref hi, .ref sc, .int ep, .int fc, .ref ob]))], [(sc, .inr (8, [.ref tx, .int (nI LN), .int (nI x.1), .int (bI x.2), .int (nI n), .ref kd, .ref fs, .ref sd, .ref td]))], [(kd, .inl (cy 2, 13, .inl gk))], [(fs, .inl (cy 2, 13, .inl g1))], [(sd, .inl (cy 2, 13, .inl g2))], [(td, .inl (cy 2, 13, .inl g3))], sWd cy tr τ]) (fl [[(aX, .inr (11, [.ref (na 0), .ref (tr 0), .ref (sn 0), .int hs, .ref hi, .ref sc, .int ep, .int fc, .ref ob]))], [(sc, .inr (8, [.ref tx, .int (nI LN), .int (nI x.1), .int (bI x.2), .int (nI n), .ref kd, .ref fs, .ref sd, .ref td]))], [(kd, .inl (cy 2, 13, .inl gk))], [(fs, .inl (cy 2, 13, .inl g1))], [(sd, .inl (cy 2, 13, .inl g2))], [(td, .inl (cy 2, 13, .inl g3))], sWd cy tr (appC τ (gk i) (g1 i) (g2 i) (g3 i))]) (none) := by
  refine WC.ofW (cc := cX7_perform) (maxL := 5) (ret := none) (by decide) rfl (Nat.le_of_ble_eq_true rfl) ?_
  intro p e s m below meth cq S9 hr hlocks hPB hD hS ls hl
  obtain ⟨hxq, hb, hml, hown, hts⟩ := id S9
  obtain ⟨⟨hP, hK⟩, hTZ⟩ := hPB
  have hl : lv_has ls 5 [(0, .ref aX), (1, .int (nI i))] := hl
  have hi8 : ∀ w ∈ wsX40, w ∈ wsX7_perform := by decide +kernel
  have hi11 : ∀ w ∈ wsX70, w ∈ wsX7_perform := by decide +kernel
  have hf16 := hts (.fieldLink RX7 16 "BathLeague" "trial" "LBathLeague$State;") (by decide +kernel)
  have hf36 := hts (.fieldLink RX7 36 "BathLeague" "script" "LBathLeague$Script;") (by decide +kernel)
  have hf425 := hts (.fieldLink RX7 425 "BathLeague$Script" "first" "[I") (by decide +kernel)
  have hf428 := hts (.fieldLink RX7 428 "BathLeague$Script" "second" "[I") (by decide +kernel)
  have hf431 := hts (.fieldLink RX7 431 "BathLeague$Script" "third" "[I") (by decide +kernel)
  have hf434 := hts (.fieldLink RX7 434 "BathLeague$Script" "kind" "[I") (by decide +kernel)
  refine lv_aload_n hxq hb dX7_perform_0 rfl (lv_at hl 0 rfl) ?_
  refine va_get (D := G) (ci := 11) (v := .ref sc) (C := RX7) (T := TX7) (N := 9) hxq hb hts hi11 hown hK.1 hP 0 rfl rfl 5 (by decide) hf36 (fun _ h9 => h9) rfl dX7_perform_1 ?_
  refine va_get (D := G) (ci := 8) (v := .ref fs) (C := RX4) (T := TX4) (N := 9) hxq hb hts hi8 hown hK.1 hP 1 rfl rfl 6 (by decide) hf425 (fun _ h9 => h9) rfl dX7_perform_4 ?_
  refine lv_iload_n hxq hb dX7_perform_7 rfl (lv_at hl 1 rfl) ?_
  refine m_iald hxq hb hK hP 3 (k := i) rfl rfl (by omega) (Nat.le_of_ble_eq_true rfl) dX7_perform_8 ?_
  refine lv_istore_n (lv' := [(2, .int (g1 i)), (0, .ref aX), (1, .int (nI i))]) hxq hb dX7_perform_9 rfl hl (by decide) rfl (fun ls hl => ?_)
  refine lv_aload_n hxq hb dX7_perform_10 rfl (lv_at hl 1 rfl) ?_
  refine va_get (D := G) (ci := 11) (v := .ref sc) (C := RX7) (T := TX7) (N := 9) hxq hb hts hi11 hown hK.1 hP 0 rfl rfl 5 (by decide) hf36 (fun _ h9 => h9) rfl dX7_perform_11 ?_
  refine va_get (D := G) (ci := 8) (v := .ref sd) (C := RX4) (T := TX4) (N := 9) hxq hb hts hi8 hown hK.1 hP 1 rfl rfl 7 (by decide) hf428 (fun _ h9 => h9) rfl dX7_perform_14 ?_
  refine lv_iload_n hxq hb dX7_perform_17 rfl (lv_at hl 2 rfl) ?_
  refine m_iald hxq hb hK hP 4 (k := i) rfl rfl (by omega) (Nat.le_of_ble_eq_true rfl) dX7_perform_18 ?_
  refine lv_istore_n (lv' := [(3, .int (g2 i)), (2, .int (g1 i)), (0, .ref aX), (1, .int (nI i))]) hxq hb dX7_perform_19 rfl hl (by decide) rfl (fun ls hl => ?_)
  refine lv_aload_n hxq hb dX7_perform_20 rfl (lv_at hl 2 rfl) ?_
  refine va_get (D := G) (ci := 11) (v := .ref sc) (C := RX7) (T := TX7) (N := 9) hxq hb hts hi11 hown hK.1 hP 0 rfl rfl 5 (by decide) hf36 (fun _ h9 => h9) rfl dX7_perform_21 ?_
  refine va_get (D := G) (ci := 8) (v := .ref td) (C := RX4) (T := TX4) (N := 9) hxq hb hts hi8 hown hK.1 hP 1 rfl rfl 8 (by decide) hf431 (fun _ h9 => h9) rfl dX7_perform_24 ?_
  refine lv_iload_n hxq hb dX7_perform_27 rfl (lv_at hl 3 rfl) ?_
  refine m_iald hxq hb hK hP 5 (k := i) rfl rfl (by omega) (Nat.le_of_ble_eq_true rfl) dX7_perform_28 ?_
  refine lv_istore (lv' := [(4, .int (g3 i)), (3, .int (g2 i)), (2, .int (g1 i)), (0, .ref aX), (1, .int (nI i))]) hxq hb dX7_perform_29 hl (by decide) rfl (fun ls hl => ?_)
  refine lv_aload_n hxq hb dX7_perform_31 rfl (lv_at hl 3 rfl) ?_
  refine va_get (D := G) (ci := 11) (v := .ref sc) (C := RX7) (T := TX7) (N := 9) hxq hb hts hi11 hown hK.1 hP 0 rfl rfl 5 (by decide) hf36 (fun _ h9 => h9) rfl dX7_perform_32 ?_
  refine va_get (D := G) (ci := 8) (v := .ref kd) (C := RX4) (T := TX4) (N := 9) hxq hb hts hi8 hown hK.1 hP 1 rfl rfl 5 (by decide) hf434 (fun _ h9 => h9) rfl dX7_perform_35 ?_
  refine lv_iload_n hxq hb dX7_perform_38 rfl (lv_at hl 4 rfl) ?_
  refine m_iald hxq hb hK hP 2 (k := i) rfl rfl (by omega) (Nat.le_of_ble_eq_true rfl) dX7_perform_39 ?_
  by_cases s_0 : gk i = 0
  · have hF2 := ((if_pos s_0)).symm.trans hF
    have h5 := if5_0 hF2
    refine lv_t0 s_0 ?_
    refine lv_tableIn (off := 44) (tgt := 84) hxq hb dX7_perform_40 (by decide) (by decide) (by decide) (by decide) ?_
    refine lv_aload_n hxq hb dX7_perform_84 rfl (lv_at hl 3 rfl) ?_
    refine va_get (D := G) (ci := 11) (v := .ref (tr 0)) (C := RX7) (T := TX7) (N := 9) hxq hb hts hi11 hown hK.1 hP 0 rfl rfl 1 (by decide) hf16 (fun _ h9 => h9) rfl dX7_perform_85 ?_
    refine c_wcVi (ws' := fl [[(aX, .inr (11, [.ref (na 0), .ref (tr 0), .ref (sn 0), .int hs, .ref hi, .ref sc, .int ep, .int fc, .ref ob]))], [(sc, .inr (8, [.ref tx, .int (nI LN), .int (nI x.1), .int (bI x.2), .int (nI n), .ref kd, .ref fs, .ref sd, .ref td]))], [(kd, .inl (cy 2, 13, .inl gk))], [(fs, .inl (cy 2, 13, .inl g1))], [(sd, .inl (cy 2, 13, .inl g2))], [(td, .inl (cy 2, 13, .inl g3))], sWd cy tr (plcS τ)]) S9 (c_X5_placeBath l G cy tr τ ho h5) (cwV 0 hts gX7_perform_X5_placeBath rfl rfl rfl (by decide +kernel) ⟨Nat.le_of_ble_eq_true rfl, Nat.le_of_ble_eq_true rfl⟩) PB.blind (va_recv hK.1 hP (ci := 9) (q0 := 6) rfl rfl) (PB.at hK (PpartC (Wc := [[(aX, .inr (11, [.ref (na 0), .ref (tr 0), .ref (sn 0), .int hs, .ref hi, .ref sc, .int ep, .int fc, .ref ob]))], [(sc, .inr (8, [.ref tx, .int (nI LN), .int (nI x.1), .int (bI x.2), .int (nI n), .ref kd, .ref fs, .ref sd, .ref td]))], [(kd, .inl (cy 2, 13, .inl gk))], [(fs, .inl (cy 2, 13, .inl g1))], [(sd, .inl (cy 2, 13, .inl g2))], [(td, .inl (cy 2, 13, .inl g3))], sWd cy tr τ]) (cs := [sWd cy tr τ]) hP [6] rfl)) hP hD hS (poss [[(aX, .inr (11, [.ref (na 0), .ref (tr 0), .ref (sn 0), .int hs, .ref hi, .ref sc, .int ep, .int fc, .ref ob]))], [(sc, .inr (8, [.ref tx, .int (nI LN), .int (nI x.1), .int (bI x.2), .int (nI n), .ref kd, .ref fs, .ref sd, .ref td]))], [(kd, .inl (cy 2, 13, .inl gk))], [(fs, .inl (cy 2, 13, .inl g1))], [(sd, .inl (cy 2, 13, .inl g2))], [(td, .inl (cy 2, 13, .inl g3))], sWd cy tr τ] [6]) (poss_F (cs := [sWd cy tr τ]) rfl) (poss_nd (by decide)) rfl (wsets_F (cs := [sWd cy tr τ]) (ns := [sWd cy tr (plcS τ)]) rfl (by decide) rfl) rfl hl.1 rfl (Nat.le_of_ble_eq_true rfl) ⟨Nat.zero_le _, Nat.zero_le _⟩ dX7_perform_88 (fun H locs hP hD hS => ?_)
    refine lv_pop hxq hb dX7_perform_91 rfl ?_
    refine lv_goto (tgt := 190) hxq hb dX7_perform_92 (by decide) ?_
    have e9 : appC τ (gk i) (g1 i) (g2 i) (g3 i) = plcS τ := (if_pos s_0)
    exact wc_vret hxq hb hr hlocks (by rw [e9]; exact hP) hS dX7_perform_190
  · by_cases s_1 : gk i = 1
    · have hF2 := (((if_neg s_0).trans (if_pos s_1))).symm.trans hF
      have hq := filF_0 ho.1 hF2
      have hq1 := hq.1.2; have hN9 := ho.1
      refine lv_t0 s_1 ?_
      refine lv_tableIn (off := 55) (tgt := 95) hxq hb dX7_perform_40 (by decide) (by decide) (by decide) (by decide) ?_
      refine lv_aload_n hxq hb dX7_perform_95 rfl (lv_at hl 3 rfl) ?_
      refine va_get (D := G) (ci := 11) (v := .ref (tr 0)) (C := RX7) (T := TX7) (N := 9) hxq hb hts hi11 hown hK.1 hP 0 rfl rfl 1 (by decide) hf16 (fun _ h9 => h9) rfl dX7_perform_96 ?_
      refine lv_iload_n hxq hb dX7_perform_99 rfl (lv_at hl 2 rfl) ?_
      refine lv_iload_n hxq hb dX7_perform_100 rfl (lv_at hl 1 rfl) ?_
      refine lv_iload hxq hb dX7_perform_101 (lv_at hl 0 rfl) ?_
      refine lv_t2 (show g1 i = nI (bx (g1 i)) from hq.1.1) ?_
      refine c_wcVv (ws' := fl [[(aX, .inr (11, [.ref (na 0), .ref (tr 0), .ref (sn 0), .int hs, .ref hi, .ref sc, .int ep, .int fc, .ref ob]))], [(sc, .inr (8, [.ref tx, .int (nI LN), .int (nI x.1), .int (bI x.2), .int (nI n), .ref kd, .ref fs, .ref sd, .ref td]))], [(kd, .inl (cy 2, 13, .inl gk))], [(fs, .inl (cy 2, 13, .inl g1))], [(sd, .inl (cy 2, 13, .inl g2))], [(td, .inl (cy 2, 13, .inl g3))], sWd cy tr (filS (bx (g1 i)) (g3 i) ((g3 i) * (10 + 30 * (g2 i))) τ)]) S9 (c_X5_fill l G cy tr τ (bx (g1 i)) (g2 i) (g3 i) ho (by omega) hq.2.1) (cwV 3 hts gX7_perform_X5_fill rfl rfl rfl (by decide +kernel) ⟨Nat.le_of_ble_eq_true rfl, Nat.le_of_ble_eq_true rfl⟩) PT.blind (va_recv hK.1 hP (ci := 9) (q0 := 6) rfl rfl) (PT.at hTZ hS (wA_subF hD [6] (cs := [sWd cy tr τ]) rfl) hK (PpartC (Wc := [[(aX, .inr (11, [.ref (na 0), .ref (tr 0), .ref (sn 0), .int hs, .ref hi, .ref sc, .int ep, .int fc, .ref ob]))], [(sc, .inr (8, [.ref tx, .int (nI LN), .int (nI x.1), .int (bI x.2), .int (nI n), .ref kd, .ref fs, .ref sd, .ref td]))], [(kd, .inl (cy 2, 13, .inl gk))], [(fs, .inl (cy 2, 13, .inl g1))], [(sd, .inl (cy 2, 13, .inl g2))], [(td, .inl (cy 2, 13, .inl g3))], sWd cy tr τ]) (cs := [sWd cy tr τ]) hP [6] rfl)) hP hD hS (poss [[(aX, .inr (11, [.ref (na 0), .ref (tr 0), .ref (sn 0), .int hs, .ref hi, .ref sc, .int ep, .int fc, .ref ob]))], [(sc, .inr (8, [.ref tx, .int (nI LN), .int (nI x.1), .int (bI x.2), .int (nI n), .ref kd, .ref fs, .ref sd, .ref td]))], [(kd, .inl (cy 2, 13, .inl gk))], [(fs, .inl (cy 2, 13, .inl g1))], [(sd, .inl (cy 2, 13, .inl g2))], [(td, .inl (cy 2, 13, .inl g3))], sWd cy tr τ] [6]) (poss_F (cs := [sWd cy tr τ]) rfl) (poss_nd (by decide)) rfl (wsets_F (cs := [sWd cy tr τ]) (ns := [sWd cy tr (filS (bx (g1 i)) (g3 i) ((g3 i) * (10 + 30 * (g2 i))) τ)]) rfl (by decide) rfl) rfl hl.1 rfl (Nat.le_of_ble_eq_true rfl) ⟨Nat.zero_le _, Nat.zero_le _⟩ dX7_perform_103 (fun H locs hP hD hS => ?_)
      refine lv_goto (tgt := 190) hxq hb dX7_perform_106 (by decide) ?_
      have e9 : appC τ (gk i) (g1 i) (g2 i) (g3 i) = filS (bx (g1 i)) (g3 i) ((g3 i) * (10 + 30 * (g2 i))) τ := ((if_neg s_0).trans (if_pos s_1))
      exact wc_vret hxq hb hr hlocks (by rw [e9]; exact hP) hS dX7_perform_190
    · by_cases s_2 : gk i = 2
      · have hF2 := (((if_neg s_0).trans ((if_neg s_1).trans (if_pos s_2)))).symm.trans hF
        have hq := plgF_0 ho.1 hF2
        have hq1 := hq.2; have hN9 := ho.1
        refine lv_t0 s_2 ?_
        refine lv_tableIn (off := 69) (tgt := 109) hxq hb dX7_perform_40 (by decide) (by decide) (by decide) (by decide) ?_
        refine lv_aload_n hxq hb dX7_perform_109 rfl (lv_at hl 3 rfl) ?_
        refine va_get (D := G) (ci := 11) (v := .ref (tr 0)) (C := RX7) (T := TX7) (N := 9) hxq hb hts hi11 hown hK.1 hP 0 rfl rfl 1 (by decide) hf16 (fun _ h9 => h9) rfl dX7_perform_110 ?_
        refine lv_iload_n hxq hb dX7_perform_113 rfl (lv_at hl 2 rfl) ?_
        refine lv_iload_n hxq hb dX7_perform_114 rfl (lv_at hl 1 rfl) ?_
        refine lv_iconst (v := 1) hxq hb dX7_perform_115 (by decide) ?_
        refine lv_icmp_ne (tgt := 123) hxq hb dX7_perform_116 (by decide) (fun c_1 => ?_) (fun c_1 => ?_)
        · refine lv_iconst (v := 0) hxq hb dX7_perform_123 (by decide) ?_
          refine lv_t1 (show g1 i = nI (bx (g1 i)) from hq.1) ?_
          refine c_wcVv (ws' := fl [[(aX, .inr (11, [.ref (na 0), .ref (tr 0), .ref (sn 0), .int hs, .ref hi, .ref sc, .int ep, .int fc, .ref ob]))], [(sc, .inr (8, [.ref tx, .int (nI LN), .int (nI x.1), .int (bI x.2), .int (nI n), .ref kd, .ref fs, .ref sd, .ref td]))], [(kd, .inl (cy 2, 13, .inl gk))], [(fs, .inl (cy 2, 13, .inl g1))], [(sd, .inl (cy 2, 13, .inl g2))], [(td, .inl (cy 2, 13, .inl g3))], sWd cy tr (pluS (bx (g1 i)) 0 τ)]) S9 (c_X5_plug l G cy tr τ (bx (g1 i)) 0 ho (by omega) rfl) (cwV 2 hts gX7_perform_X5_plug rfl rfl rfl (by decide +kernel) ⟨Nat.le_of_ble_eq_true rfl, Nat.le_of_ble_eq_true rfl⟩) PB.blind (va_recv hK.1 hP (ci := 9) (q0 := 6) rfl rfl) (PB.at hK (PpartC (Wc := [[(aX, .inr (11, [.ref (na 0), .ref (tr 0), .ref (sn 0), .int hs, .ref hi, .ref sc, .int ep, .int fc, .ref ob]))], [(sc, .inr (8, [.ref tx, .int (nI LN), .int (nI x.1), .int (bI x.2), .int (nI n), .ref kd, .ref fs, .ref sd, .ref td]))], [(kd, .inl (cy 2, 13, .inl gk))], [(fs, .inl (cy 2, 13, .inl g1))], [(sd, .inl (cy 2, 13, .inl g2))], [(td, .inl (cy 2, 13, .inl g3))], sWd cy tr τ]) (cs := [sWd cy tr τ]) hP [6] rfl)) hP hD hS (poss [[(aX, .inr (11, [.ref (na 0), .ref (tr 0), .ref (sn 0), .int hs, .ref hi, .ref sc, .int ep, .int fc, .ref ob]))], [(sc, .inr (8, [.ref tx, .int (nI LN), .int (nI x.1), .int (bI x.2), .int (nI n), .ref kd, .ref fs, .ref sd, .ref td]))], [(kd, .inl (cy 2, 13, .inl gk))], [(fs, .inl (cy 2, 13, .inl g1))], [(sd, .inl (cy 2, 13, .inl g2))], [(td, .inl (cy 2, 13, .inl g3))], sWd cy tr τ] [6]) (poss_F (cs := [sWd cy tr τ]) rfl) (poss_nd (by decide)) rfl (wsets_F (cs := [sWd cy tr τ]) (ns := [sWd cy tr (pluS (bx (g1 i)) 0 τ)]) rfl (by decide) rfl) rfl hl.1 rfl (Nat.le_of_ble_eq_true rfl) ⟨Nat.zero_le _, Nat.zero_le _⟩ dX7_perform_124 (fun H locs hP hD hS => ?_)
          refine lv_goto (tgt := 190) hxq hb dX7_perform_127 (by decide) ?_
          have e9 : appC τ (gk i) (g1 i) (g2 i) (g3 i) = pluS (bx (g1 i)) 0 τ := ((if_neg s_0).trans ((if_neg s_1).trans (if_pos s_2))).trans (by rw [if_neg c_1])
          exact wc_vret hxq hb hr hlocks (by rw [e9]; exact hP) hS dX7_perform_190
        · refine lv_iconst (v := 1) hxq hb dX7_perform_119 (by decide) ?_
          refine lv_goto (tgt := 124) hxq hb dX7_perform_120 (by decide) ?_
          refine lv_t1 (show g1 i = nI (bx (g1 i)) from hq.1) ?_
          refine c_wcVv (ws' := fl [[(aX, .inr (11, [.ref (na 0), .ref (tr 0), .ref (sn 0), .int hs, .ref hi, .ref sc, .int ep, .int fc, .ref ob]))], [(sc, .inr (8, [.ref tx, .int (nI LN), .int (nI x.1), .int (bI x.2), .int (nI n), .ref kd, .ref fs, .ref sd, .ref td]))], [(kd, .inl (cy 2, 13, .inl gk))], [(fs, .inl (cy 2, 13, .inl g1))], [(sd, .inl (cy 2, 13, .inl g2))], [(td, .inl (cy 2, 13, .inl g3))], sWd cy tr (pluS (bx (g1 i)) 1 τ)]) S9 (c_X5_plug l G cy tr τ (bx (g1 i)) 1 ho (by omega) rfl) (cwV 2 hts gX7_perform_X5_plug rfl rfl rfl (by decide +kernel) ⟨Nat.le_of_ble_eq_true rfl, Nat.le_of_ble_eq_true rfl⟩) PB.blind (va_recv hK.1 hP (ci := 9) (q0 := 6) rfl rfl) (PB.at hK (PpartC (Wc := [[(aX, .inr (11, [.ref (na 0), .ref (tr 0), .ref (sn 0), .int hs, .ref hi, .ref sc, .int ep, .int fc, .ref ob]))], [(sc, .inr (8, [.ref tx, .int (nI LN), .int (nI x.1), .int (bI x.2), .int (nI n), .ref kd, .ref fs, .ref sd, .ref td]))], [(kd, .inl (cy 2, 13, .inl gk))], [(fs, .inl (cy 2, 13, .inl g1))], [(sd, .inl (cy 2, 13, .inl g2))], [(td, .inl (cy 2, 13, .inl g3))], sWd cy tr τ]) (cs := [sWd cy tr τ]) hP [6] rfl)) hP hD hS (poss [[(aX, .inr (11, [.ref (na 0), .ref (tr 0), .ref (sn 0), .int hs, .ref hi, .ref sc, .int ep, .int fc, .ref ob]))], [(sc, .inr (8, [.ref tx, .int (nI LN), .int (nI x.1), .int (bI x.2), .int (nI n), .ref kd, .ref fs, .ref sd, .ref td]))], [(kd, .inl (cy 2, 13, .inl gk))], [(fs, .inl (cy 2, 13, .inl g1))], [(sd, .inl (cy 2, 13, .inl g2))], [(td, .inl (cy 2, 13, .inl g3))], sWd cy tr τ] [6]) (poss_F (cs := [sWd cy tr τ]) rfl) (poss_nd (by decide)) rfl (wsets_F (cs := [sWd cy tr τ]) (ns := [sWd cy tr (pluS (bx (g1 i)) 1 τ)]) rfl (by decide) rfl) rfl hl.1 rfl (Nat.le_of_ble_eq_true rfl) ⟨Nat.zero_le _, Nat.zero_le _⟩ dX7_perform_124 (fun H locs hP hD hS => ?_)
          refine lv_goto (tgt := 190) hxq hb dX7_perform_127 (by decide) ?_
          have e9 : appC τ (gk i) (g1 i) (g2 i) (g3 i) = pluS (bx (g1 i)) 1 τ := ((if_neg s_0).trans ((if_neg s_1).trans (if_pos s_2))).trans (by rw [if_pos c_1])
          exact wc_vret hxq hb hr hlocks (by rw [e9]; exact hP) hS dX7_perform_190
      · by_cases s_3 : gk i = 3
        · have hF2 := (((if_neg s_0).trans ((if_neg s_1).trans ((if_neg s_2).trans (if_pos s_3))))).symm.trans hF
          have hq := traF_0 ho.1 hF2
          have hq1 := hq.1.2; have hN9 := ho.1
          have hq2 := hq.2.1.2
          refine lv_t0 s_3 ?_
          refine lv_tableIn (off := 90) (tgt := 130) hxq hb dX7_perform_40 (by decide) (by decide) (by decide) (by decide) ?_
          refine lv_aload_n hxq hb dX7_perform_130 rfl (lv_at hl 3 rfl) ?_
          refine va_get (D := G) (ci := 11) (v := .ref (tr 0)) (C := RX7) (T := TX7) (N := 9) hxq hb hts hi11 hown hK.1 hP 0 rfl rfl 1 (by decide) hf16 (fun _ h9 => h9) rfl dX7_perform_131 ?_
          refine lv_iload_n hxq hb dX7_perform_134 rfl (lv_at hl 2 rfl) ?_
          refine lv_iload_n hxq hb dX7_perform_135 rfl (lv_at hl 1 rfl) ?_
          refine lv_iload hxq hb dX7_perform_136 (lv_at hl 0 rfl) ?_
          refine lv_t2 (show g1 i = nI (bx (g1 i)) from hq.1.1) ?_
          refine lv_t1 (show g2 i = nI (bx (g2 i)) from hq.2.1.1) ?_
          refine c_wcVi (ws' := fl [[(aX, .inr (11, [.ref (na 0), .ref (tr 0), .ref (sn 0), .int hs, .ref hi, .ref sc, .int ep, .int fc, .ref ob]))], [(sc, .inr (8, [.ref tx, .int (nI LN), .int (nI x.1), .int (bI x.2), .int (nI n), .ref kd, .ref fs, .ref sd, .ref td]))], [(kd, .inl (cy 2, 13, .inl gk))], [(fs, .inl (cy 2, 13, .inl g1))], [(sd, .inl (cy 2, 13, .inl g2))], [(td, .inl (cy 2, 13, .inl g3))], sWd cy tr (traS (bx (g1 i)) (bx (g2 i)) (g3 i) τ)]) S9 (c_X5_transfer l G cy tr τ (bx (g1 i)) (bx (g2 i)) (g3 i) ho (by omega) (by omega)) (cwV 3 hts gX7_perform_X5_transfer rfl rfl rfl (by decide +kernel) ⟨Nat.le_of_ble_eq_true rfl, Nat.le_of_ble_eq_true rfl⟩) PB.blind (va_recv hK.1 hP (ci := 9) (q0 := 6) rfl rfl) (PB.at hK (PpartC (Wc := [[(aX, .inr (11, [.ref (na 0), .ref (tr 0), .ref (sn 0), .int hs, .ref hi, .ref sc, .int ep, .int fc, .ref ob]))], [(sc, .inr (8, [.ref tx, .int (nI LN), .int (nI x.1), .int (bI x.2), .int (nI n), .ref kd, .ref fs, .ref sd, .ref td]))], [(kd, .inl (cy 2, 13, .inl gk))], [(fs, .inl (cy 2, 13, .inl g1))], [(sd, .inl (cy 2, 13, .inl g2))], [(td, .inl (cy 2, 13, .inl g3))], sWd cy tr τ]) (cs := [sWd cy tr τ]) hP [6] rfl)) hP hD hS (poss [[(aX, .inr (11, [.ref (na 0), .ref (tr 0), .ref (sn 0), .int hs, .ref hi, .ref sc, .int ep, .int fc, .ref ob]))], [(sc, .inr (8, [.ref tx, .int (nI LN), .int (nI x.1), .int (bI x.2), .int (nI n), .ref kd, .ref fs, .ref sd, .ref td]))], [(kd, .inl (cy 2, 13, .inl gk))], [(fs, .inl (cy 2, 13, .inl g1))], [(sd, .inl (cy 2, 13, .inl g2))], [(td, .inl (cy 2, 13, .inl g3))], sWd cy tr τ] [6]) (poss_F (cs := [sWd cy tr τ]) rfl) (poss_nd (by decide)) rfl (wsets_F (cs := [sWd cy tr τ]) (ns := [sWd cy tr (traS (bx (g1 i)) (bx (g2 i)) (g3 i) τ)]) rfl (by decide) rfl) rfl hl.1 rfl (Nat.le_of_ble_eq_true rfl) ⟨Nat.zero_le _, Nat.zero_le _⟩ dX7_perform_138 (fun H locs hP hD hS => ?_)
          refine lv_pop hxq hb dX7_perform_141 rfl ?_
          refine lv_goto (tgt := 190) hxq hb dX7_perform_142 (by decide) ?_
          have e9 : appC τ (gk i) (g1 i) (g2 i) (g3 i) = traS (bx (g1 i)) (bx (g2 i)) (g3 i) τ := ((if_neg s_0).trans ((if_neg s_1).trans ((if_neg s_2).trans (if_pos s_3))))
          exact wc_vret hxq hb hr hlocks (by rw [e9]; exact hP) hS dX7_perform_190
        · by_cases s_4 : gk i = 4
          · have hF2 := (((if_neg s_0).trans ((if_neg s_1).trans ((if_neg s_2).trans ((if_neg s_3).trans (if_pos s_4)))))).symm.trans hF
            have hq := dukF_0 ho.1 hF2
            refine lv_t0 s_4 ?_
            refine lv_tableIn (off := 105) (tgt := 145) hxq hb dX7_perform_40 (by decide) (by decide) (by decide) (by decide) ?_
            refine lv_aload_n hxq hb dX7_perform_145 rfl (lv_at hl 3 rfl) ?_
            refine va_get (D := G) (ci := 11) (v := .ref (tr 0)) (C := RX7) (T := TX7) (N := 9) hxq hb hts hi11 hown hK.1 hP 0 rfl rfl 1 (by decide) hf16 (fun _ h9 => h9) rfl dX7_perform_146 ?_
            refine lv_iload_n hxq hb dX7_perform_149 rfl (lv_at hl 2 rfl) ?_
            refine lv_iload_n hxq hb dX7_perform_150 rfl (lv_at hl 1 rfl) ?_
            refine lv_iload hxq hb dX7_perform_151 (lv_at hl 0 rfl) ?_
            refine c_wcVi (ws' := fl [[(aX, .inr (11, [.ref (na 0), .ref (tr 0), .ref (sn 0), .int hs, .ref hi, .ref sc, .int ep, .int fc, .ref ob]))], [(sc, .inr (8, [.ref tx, .int (nI LN), .int (nI x.1), .int (bI x.2), .int (nI n), .ref kd, .ref fs, .ref sd, .ref td]))], [(kd, .inl (cy 2, 13, .inl gk))], [(fs, .inl (cy 2, 13, .inl g1))], [(sd, .inl (cy 2, 13, .inl g2))], [(td, .inl (cy 2, 13, .inl g3))], sWd cy tr (dukS (g1 i) (g2 i) (g3 i) τ)]) S9 (c_X5_placeDuck l G cy tr τ (g1 i) (g2 i) (g3 i) ho hq.2.2.2.2.2 hq.2.1) (cwV 3 hts gX7_perform_X5_placeDuck rfl rfl rfl (by decide +kernel) ⟨Nat.le_of_ble_eq_true rfl, Nat.le_of_ble_eq_true rfl⟩) PB.blind (va_recv hK.1 hP (ci := 9) (q0 := 6) rfl rfl) (PB.at hK (PpartC (Wc := [[(aX, .inr (11, [.ref (na 0), .ref (tr 0), .ref (sn 0), .int hs, .ref hi, .ref sc, .int ep, .int fc, .ref ob]))], [(sc, .inr (8, [.ref tx, .int (nI LN), .int (nI x.1), .int (bI x.2), .int (nI n), .ref kd, .ref fs, .ref sd, .ref td]))], [(kd, .inl (cy 2, 13, .inl gk))], [(fs, .inl (cy 2, 13, .inl g1))], [(sd, .inl (cy 2, 13, .inl g2))], [(td, .inl (cy 2, 13, .inl g3))], sWd cy tr τ]) (cs := [sWd cy tr τ]) hP [6] rfl)) hP hD hS (poss [[(aX, .inr (11, [.ref (na 0), .ref (tr 0), .ref (sn 0), .int hs, .ref hi, .ref sc, .int ep, .int fc, .ref ob]))], [(sc, .inr (8, [.ref tx, .int (nI LN), .int (nI x.1), .int (bI x.2), .int (nI n), .ref kd, .ref fs, .ref sd, .ref td]))], [(kd, .inl (cy 2, 13, .inl gk))], [(fs, .inl (cy 2, 13, .inl g1))], [(sd, .inl (cy 2, 13, .inl g2))], [(td, .inl (cy 2, 13, .inl g3))], sWd cy tr τ] [6]) (poss_F (cs := [sWd cy tr τ]) rfl) (poss_nd (by decide)) rfl (wsets_F (cs := [sWd cy tr τ]) (ns := [sWd cy tr (dukS (g1 i) (g2 i) (g3 i) τ)]) rfl (by decide) rfl) rfl hl.1 rfl (Nat.le_of_ble_eq_true rfl) ⟨Nat.zero_le _, Nat.zero_le _⟩ dX7_perform_153 (fun H locs hP hD hS => ?_)
            refine lv_pop hxq hb dX7_perform_156 rfl ?_
            refine lv_goto (tgt := 190) hxq hb dX7_perform_157 (by decide) ?_
            have e9 : appC τ (gk i) (g1 i) (g2 i) (g3 i) = dukS (g1 i) (g2 i) (g3 i) τ := ((if_neg s_0).trans ((if_neg s_1).trans ((if_neg s_2).trans ((if_neg s_3).trans (if_pos s_4)))))
            exact wc_vret hxq hb hr hlocks (by rw [e9]; exact hP) hS dX7_perform_190
          · by_cases s_5 : gk i = 5
            · have hF2 := (((if_neg s_0).trans ((if_neg s_1).trans ((if_neg s_2).trans ((if_neg s_3).trans ((if_neg s_4).trans (if_pos s_5))))))).symm.trans hF
              have hq := admF_0 ho.1 hF2
              have hq1 := hq.1.2; have hN9 := ho.1
              refine lv_t0 s_5 ?_
              refine lv_tableIn (off := 120) (tgt := 160) hxq hb dX7_perform_40 (by decide) (by decide) (by decide) (by decide) ?_
              refine lv_aload_n hxq hb dX7_perform_160 rfl (lv_at hl 3 rfl) ?_
              refine va_get (D := G) (ci := 11) (v := .ref (tr 0)) (C := RX7) (T := TX7) (N := 9) hxq hb hts hi11 hown hK.1 hP 0 rfl rfl 1 (by decide) hf16 (fun _ h9 => h9) rfl dX7_perform_161 ?_
              refine lv_iload_n hxq hb dX7_perform_164 rfl (lv_at hl 2 rfl) ?_
              refine lv_t0 (show g1 i = nI (bx (g1 i)) from hq.1.1) ?_
              refine c_wcVv (ws' := fl [[(aX, .inr (11, [.ref (na 0), .ref (tr 0), .ref (sn 0), .int hs, .ref hi, .ref sc, .int ep, .int fc, .ref ob]))], [(sc, .inr (8, [.ref tx, .int (nI LN), .int (nI x.1), .int (bI x.2), .int (nI n), .ref kd, .ref fs, .ref sd, .ref td]))], [(kd, .inl (cy 2, 13, .inl gk))], [(fs, .inl (cy 2, 13, .inl g1))], [(sd, .inl (cy 2, 13, .inl g2))], [(td, .inl (cy 2, 13, .inl g3))], sWd cy tr (admS (bx (g1 i)) τ)]) S9 (c_X5_admit l G cy tr τ (bx (g1 i)) ho (by omega)) (cwV 1 hts gX7_perform_X5_admit rfl rfl rfl (by decide +kernel) ⟨Nat.le_of_ble_eq_true rfl, Nat.le_of_ble_eq_true rfl⟩) PB.blind (va_recv hK.1 hP (ci := 9) (q0 := 6) rfl rfl) (PB.at hK (PpartC (Wc := [[(aX, .inr (11, [.ref (na 0), .ref (tr 0), .ref (sn 0), .int hs, .ref hi, .ref sc, .int ep, .int fc, .ref ob]))], [(sc, .inr (8, [.ref tx, .int (nI LN), .int (nI x.1), .int (bI x.2), .int (nI n), .ref kd, .ref fs, .ref sd, .ref td]))], [(kd, .inl (cy 2, 13, .inl gk))], [(fs, .inl (cy 2, 13, .inl g1))], [(sd, .inl (cy 2, 13, .inl g2))], [(td, .inl (cy 2, 13, .inl g3))], sWd cy tr τ]) (cs := [sWd cy tr τ]) hP [6] rfl)) hP hD hS (poss [[(aX, .inr (11, [.ref (na 0), .ref (tr 0), .ref (sn 0), .int hs, .ref hi, .ref sc, .int ep, .int fc, .ref ob]))], [(sc, .inr (8, [.ref tx, .int (nI LN), .int (nI x.1), .int (bI x.2), .int (nI n), .ref kd, .ref fs, .ref sd, .ref td]))], [(kd, .inl (cy 2, 13, .inl gk))], [(fs, .inl (cy 2, 13, .inl g1))], [(sd, .inl (cy 2, 13, .inl g2))], [(td, .inl (cy 2, 13, .inl g3))], sWd cy tr τ] [6]) (poss_F (cs := [sWd cy tr τ]) rfl) (poss_nd (by decide)) rfl (wsets_F (cs := [sWd cy tr τ]) (ns := [sWd cy tr (admS (bx (g1 i)) τ)]) rfl (by decide) rfl) rfl hl.1 rfl (Nat.le_of_ble_eq_true rfl) ⟨Nat.zero_le _, Nat.zero_le _⟩ dX7_perform_165 (fun H locs hP hD hS => ?_)
              refine lv_goto (tgt := 190) hxq hb dX7_perform_168 (by decide) ?_
              have e9 : appC τ (gk i) (g1 i) (g2 i) (g3 i) = admS (bx (g1 i)) τ := ((if_neg s_0).trans ((if_neg s_1).trans ((if_neg s_2).trans ((if_neg s_3).trans ((if_neg s_4).trans (if_pos s_5))))))
              exact wc_vret hxq hb hr hlocks (by rw [e9]; exact hP) hS dX7_perform_190
            · by_cases s_6 : gk i = 6
              · have hF2 := (((if_neg s_0).trans ((if_neg s_1).trans ((if_neg s_2).trans ((if_neg s_3).trans ((if_neg s_4).trans ((if_neg s_5).trans (if_pos s_6)))))))).symm.trans hF
                have hq := disF_0 ho.1 hF2
                have hq1 := hq.1.2; have hN9 := ho.1
                refine lv_t0 s_6 ?_
                refine lv_tableIn (off := 131) (tgt := 171) hxq hb dX7_perform_40 (by decide) (by decide) (by decide) (by decide) ?_
                refine lv_aload_n hxq hb dX7_perform_171 rfl (lv_at hl 3 rfl) ?_
                refine va_get (D := G) (ci := 11) (v := .ref (tr 0)) (C := RX7) (T := TX7) (N := 9) hxq hb hts hi11 hown hK.1 hP 0 rfl rfl 1 (by decide) hf16 (fun _ h9 => h9) rfl dX7_perform_172 ?_
                refine lv_iload_n hxq hb dX7_perform_175 rfl (lv_at hl 2 rfl) ?_
                refine lv_t0 (show g1 i = nI (bx (g1 i)) from hq.1.1) ?_
                refine c_wcVv (ws' := fl [[(aX, .inr (11, [.ref (na 0), .ref (tr 0), .ref (sn 0), .int hs, .ref hi, .ref sc, .int ep, .int fc, .ref ob]))], [(sc, .inr (8, [.ref tx, .int (nI LN), .int (nI x.1), .int (bI x.2), .int (nI n), .ref kd, .ref fs, .ref sd, .ref td]))], [(kd, .inl (cy 2, 13, .inl gk))], [(fs, .inl (cy 2, 13, .inl g1))], [(sd, .inl (cy 2, 13, .inl g2))], [(td, .inl (cy 2, 13, .inl g3))], sWd cy tr (disS (bx (g1 i)) τ)]) S9 (c_X5_dismiss l G cy tr τ (bx (g1 i)) ho (by omega)) (cwV 1 hts gX7_perform_X5_dismiss rfl rfl rfl (by decide +kernel) ⟨Nat.le_of_ble_eq_true rfl, Nat.le_of_ble_eq_true rfl⟩) PB.blind (va_recv hK.1 hP (ci := 9) (q0 := 6) rfl rfl) (PB.at hK (PpartC (Wc := [[(aX, .inr (11, [.ref (na 0), .ref (tr 0), .ref (sn 0), .int hs, .ref hi, .ref sc, .int ep, .int fc, .ref ob]))], [(sc, .inr (8, [.ref tx, .int (nI LN), .int (nI x.1), .int (bI x.2), .int (nI n), .ref kd, .ref fs, .ref sd, .ref td]))], [(kd, .inl (cy 2, 13, .inl gk))], [(fs, .inl (cy 2, 13, .inl g1))], [(sd, .inl (cy 2, 13, .inl g2))], [(td, .inl (cy 2, 13, .inl g3))], sWd cy tr τ]) (cs := [sWd cy tr τ]) hP [6] rfl)) hP hD hS (poss [[(aX, .inr (11, [.ref (na 0), .ref (tr 0), .ref (sn 0), .int hs, .ref hi, .ref sc, .int ep, .int fc, .ref ob]))], [(sc, .inr (8, [.ref tx, .int (nI LN), .int (nI x.1), .int (bI x.2), .int (nI n), .ref kd, .ref fs, .ref sd, .ref td]))], [(kd, .inl (cy 2, 13, .inl gk))], [(fs, .inl (cy 2, 13, .inl g1))], [(sd, .inl (cy 2, 13, .inl g2))], [(td, .inl (cy 2, 13, .inl g3))], sWd cy tr τ] [6]) (poss_F (cs := [sWd cy tr τ]) rfl) (poss_nd (by decide)) rfl (wsets_F (cs := [sWd cy tr τ]) (ns := [sWd cy tr (disS (bx (g1 i)) τ)]) rfl (by decide) rfl) rfl hl.1 rfl (Nat.le_of_ble_eq_true rfl) ⟨Nat.zero_le _, Nat.zero_le _⟩ dX7_perform_176 (fun H locs hP hD hS => ?_)
                refine lv_goto (tgt := 190) hxq hb dX7_perform_179 (by decide) ?_
                have e9 : appC τ (gk i) (g1 i) (g2 i) (g3 i) = disS (bx (g1 i)) τ := ((if_neg s_0).trans ((if_neg s_1).trans ((if_neg s_2).trans ((if_neg s_3).trans ((if_neg s_4).trans ((if_neg s_5).trans (if_pos s_6)))))))
                exact wc_vret hxq hb hr hlocks (by rw [e9]; exact hP) hS dX7_perform_190
              · have hF2 := (((if_neg s_0).trans ((if_neg s_1).trans ((if_neg s_2).trans ((if_neg s_3).trans ((if_neg s_4).trans ((if_neg s_5).trans (if_neg s_6)))))))).symm.trans hF
                have hq := tikF_0 hF2
                have hq1 := hq.2.2
                refine lv_tableOut (tgt := 182) hxq hb dX7_perform_40 (sw7 s_0 s_1 s_2 s_3 s_4 s_5 s_6) (by decide) ?_
                refine lv_aload_n hxq hb dX7_perform_182 rfl (lv_at hl 3 rfl) ?_
                refine va_get (D := G) (ci := 11) (v := .ref (tr 0)) (C := RX7) (T := TX7) (N := 9) hxq hb hts hi11 hown hK.1 hP 0 rfl rfl 1 (by decide) hf16 (fun _ h9 => h9) rfl dX7_perform_183 ?_
                refine lv_iload_n hxq hb dX7_perform_186 rfl (lv_at hl 2 rfl) ?_
                refine lv_t0 (show g1 i = nI (bx (g1 i)) from hq.1) ?_
                refine c_wcVv (ws' := fl [[(aX, .inr (11, [.ref (na 0), .ref (tr 0), .ref (sn 0), .int hs, .ref hi, .ref sc, .int ep, .int fc, .ref ob]))], [(sc, .inr (8, [.ref tx, .int (nI LN), .int (nI x.1), .int (bI x.2), .int (nI n), .ref kd, .ref fs, .ref sd, .ref td]))], [(kd, .inl (cy 2, 13, .inl gk))], [(fs, .inl (cy 2, 13, .inl g1))], [(sd, .inl (cy 2, 13, .inl g2))], [(td, .inl (cy 2, 13, .inl g3))], sWd cy tr (tickN τ (bx (g1 i)))]) S9 (c_X5_passTicks l G cy tr τ (bx (g1 i)) ho (by omega)) (cwV 1 hts gX7_perform_X5_passTicks rfl rfl rfl (by decide +kernel) ⟨Nat.le_of_ble_eq_true rfl, Nat.le_of_ble_eq_true rfl⟩) PB.blind (va_recv hK.1 hP (ci := 9) (q0 := 6) rfl rfl) (PB.at hK (PpartC (Wc := [[(aX, .inr (11, [.ref (na 0), .ref (tr 0), .ref (sn 0), .int hs, .ref hi, .ref sc, .int ep, .int fc, .ref ob]))], [(sc, .inr (8, [.ref tx, .int (nI LN), .int (nI x.1), .int (bI x.2), .int (nI n), .ref kd, .ref fs, .ref sd, .ref td]))], [(kd, .inl (cy 2, 13, .inl gk))], [(fs, .inl (cy 2, 13, .inl g1))], [(sd, .inl (cy 2, 13, .inl g2))], [(td, .inl (cy 2, 13, .inl g3))], sWd cy tr τ]) (cs := [sWd cy tr τ]) hP [6] rfl)) hP hD hS (poss [[(aX, .inr (11, [.ref (na 0), .ref (tr 0), .ref (sn 0), .int hs, .ref hi, .ref sc, .int ep, .int fc, .ref ob]))], [(sc, .inr (8, [.ref tx, .int (nI LN), .int (nI x.1), .int (bI x.2), .int (nI n), .ref kd, .ref fs, .ref sd, .ref td]))], [(kd, .inl (cy 2, 13, .inl gk))], [(fs, .inl (cy 2, 13, .inl g1))], [(sd, .inl (cy 2, 13, .inl g2))], [(td, .inl (cy 2, 13, .inl g3))], sWd cy tr τ] [6]) (poss_F (cs := [sWd cy tr τ]) rfl) (poss_nd (by decide)) rfl (wsets_F (cs := [sWd cy tr τ]) (ns := [sWd cy tr (tickN τ (bx (g1 i)))]) rfl (by decide) rfl) rfl hl.1 rfl (Nat.le_of_ble_eq_true rfl) ⟨Nat.zero_le _, Nat.zero_le _⟩ dX7_perform_187 (fun H locs hP hD hS => ?_)
                have e9 : appC τ (gk i) (g1 i) (g2 i) (g3 i) = tickN τ (bx (g1 i)) := ((if_neg s_0).trans ((if_neg s_1).trans ((if_neg s_2).trans ((if_neg s_3).trans ((if_neg s_4).trans ((if_neg s_5).trans (if_neg s_6)))))))
                exact wc_vret hxq hb hr hlocks (by rw [e9]; exact hP) hS dX7_perform_190

set_option maxRecDepth 100000 in
set_option maxHeartbeats 1000000 in
theorem c_X7_type (l : Launch) (G : va_G) (cy : Nat → ClassId) (aX : Nat) (na tr sn : Nat → Nat) (hs : Int32) (hi : Nat) (ep fc : Int32) (ob sc tx kd fs sd td LN n : Nat) (x : Lx) (f : Nat → Int32) (c : Int32) (hx1 : inR c 32 126 = true) (hl9 : LN < 60) (hc : vp_nar .char c = c) : WC l yX7_type wsX7_type { frames := 1, cells := 0, slots := 0, locals := 21 } G (PB G cy [(aX, .inr (11, [.ref (na 0), .ref (tr 0), .ref (sn 0), .int hs, .ref hi, .ref sc, .int ep, .int fc, .ref ob])), (sc, .inr (8, [.ref tx, .int (nI LN), .int (nI x.1), .int (bI x.2), .int (nI n), .ref kd, .ref fs, .ref sd, .ref td])), (tx, .inl (cy 1, 60, .inl f))]) [.ref aX, .int c] [(aX, .inr (11, [.ref (na 0), .ref (tr 0), .ref (sn 0), .int hs, .ref hi, .ref sc, .int ep, .int fc, .ref ob])), (sc, .inr (8, [.ref tx, .int (nI LN), .int (nI x.1), .int (bI x.2), .int (nI n), .ref kd, .ref fs, .ref sd, .ref td])), (tx, .inl (cy 1, 60, .inl f))] [(aX, .inr (11, [.ref (na 0), .ref (tr 0), .ref (sn 0), .int hs, .ref hi, .ref sc, .int ep, .int fc, .ref ob])), (sc, .inr (8, [.ref tx, .int (nI (LN + 1)), .int (nI x.1), .int (bI x.2), .int (nI n), .ref kd, .ref fs, .ref sd, .ref td])), (tx, .inl (cy 1, 60, .inl (upd f LN c)))] (some (.int (nI (LN + 1)))) := by
  refine WC.ofW (cc := cX7_type) (maxL := 2) (ret := (some .int)) (by decide) rfl (Nat.le_of_ble_eq_true rfl) ?_
  intro p e s m below meth cq S9 hr hlocks hPB hD hS ls hl
  obtain ⟨hxq, hb, hml, hown, hts⟩ := id S9
  obtain ⟨hP, hK⟩ := hPB
  have hl : lv_has ls 2 [(0, .ref aX), (1, .int c)] := hl
  have hi8 : ∀ w ∈ wsX40, w ∈ wsX7_type := by decide +kernel
  have hi11 : ∀ w ∈ wsX70, w ∈ wsX7_type := by decide +kernel
  have hf36 := hts (.fieldLink RX7 36 "BathLeague" "script" "LBathLeague$Script;") (by decide +kernel)
  have hf339 := hts (.fieldLink RX7 339 "BathLeague$Script" "length" "I") (by decide +kernel)
  have hr1 := (inR_iff.mp hx1).1
  have hr2 := (inR_iff.mp hx1).2
  refine lv_iload_n hxq hb dX7_type_0 rfl (lv_at hl 1 rfl) ?_
  refine lv_bipush (v := 32) hxq hb dX7_type_1 (by decide) ?_
  refine lv_icmp_lt (tgt := 12) hxq hb dX7_type_3 (by decide) (fun c_1 => ?_) (fun c_1 => ?_)
  · exact absurd c_1 hr1
  · have c_1' : 32 ≤ c := Int32.not_lt.mp c_1
    refine lv_iload_n hxq hb dX7_type_6 rfl (lv_at hl 1 rfl) ?_
    refine lv_bipush (v := 126) hxq hb dX7_type_7 (by decide) ?_
    refine lv_icmp_le (tgt := 23) hxq hb dX7_type_9 (by decide) (fun c_2 => ?_) (fun c_2 => ?_)
    · have c_2' : ¬ 126 < c := Int32.not_lt.mpr c_2
      refine lv_aload_n hxq hb dX7_type_23 rfl (lv_at hl 0 rfl) ?_
      refine va_get (D := G) (ci := 11) (v := .ref sc) (C := RX7) (T := TX7) (N := 9) hxq hb hts hi11 hown hK.1 hP 0 rfl rfl 5 (by decide) hf36 (fun _ h9 => h9) rfl dX7_type_24 ?_
      refine va_get (D := G) (ci := 8) (v := .int (nI LN)) (C := RX4) (T := TX4) (N := 9) hxq hb hts hi8 hown hK.1 hP 1 rfl rfl 1 (by decide) hf339 (fun _ h9 => h9) rfl dX7_type_27 ?_
      refine lv_bipush (v := 60) hxq hb dX7_type_30 (by decide) ?_
      refine lv_icmp_lt (tgt := 46) hxq hb dX7_type_32 (by decide) (fun c_3 => ?_) (fun c_3 => ?_)
      · have k_4 : LN < 60 := (m_ltN (a := LN) (b := 60) rfl rfl (by omega) (by omega)).mp c_3
        have k_4' : ¬ (60 ≤ LN) := by omega
        refine lv_aload_n hxq hb dX7_type_46 rfl (lv_at hl 0 rfl) ?_
        refine va_get (D := G) (ci := 11) (v := .ref sc) (C := RX7) (T := TX7) (N := 9) hxq hb hts hi11 hown hK.1 hP 0 rfl rfl 5 (by decide) hf36 (fun _ h9 => h9) rfl dX7_type_47 ?_
        refine lv_iload_n hxq hb dX7_type_50 rfl (lv_at hl 1 rfl) ?_
        refine c_wcVv (ws' := [(aX, .inr (11, [.ref (na 0), .ref (tr 0), .ref (sn 0), .int hs, .ref hi, .ref sc, .int ep, .int fc, .ref ob])), (sc, .inr (8, [.ref tx, .int (nI (LN + 1)), .int (nI x.1), .int (bI x.2), .int (nI n), .ref kd, .ref fs, .ref sd, .ref td])), (tx, .inl (cy 1, 60, .inl (upd f LN c)))]) S9 (c_X4_append l G cy sc tx kd fs sd td LN n x f c hl9 hc) (cwV 1 hts gX7_type_X4_append rfl rfl rfl (by decide +kernel) ⟨Nat.le_of_ble_eq_true rfl, Nat.le_of_ble_eq_true rfl⟩) PB.blind (va_recv hK.1 hP (ci := 8) (q0 := 1) rfl rfl) (PB.at hK (m_Ppart hP [1, 2] rfl)) hP hD hS [1, 2] rfl rfl m_f2 rfl rfl hl.1 rfl (Nat.le_of_ble_eq_true rfl) ⟨Nat.zero_le _, Nat.zero_le _⟩ dX7_type_51 (fun H locs hP hD hS => ?_)
        refine lv_aload_n hxq hb dX7_type_54 rfl (lv_at hl 0 rfl) ?_
        refine va_get (D := G) (ci := 11) (v := .ref sc) (C := RX7) (T := TX7) (N := 9) hxq hb hts hi11 hown hK.1 hP 0 rfl rfl 5 (by decide) hf36 (fun _ h9 => h9) rfl dX7_type_55 ?_
        refine va_get (D := G) (ci := 8) (v := .int (nI (LN + 1))) (C := RX4) (T := TX4) (N := 9) hxq hb hts hi8 hown hK.1 hP 1 rfl rfl 1 (by decide) hf339 (fun _ h9 => h9) rfl dX7_type_58 ?_
        exact wc_iret hxq hb hr hlocks hP hS rfl dX7_type_61
      · have k_5 : ¬ (LN < 60) := fun z => c_3 ((m_ltN (a := LN) (b := 60) rfl rfl (by omega) (by omega)).mpr z)
        have k_5' : 60 ≤ LN := by omega
        exfalso; omega
    · exact absurd (Int32.not_le.mp c_2) hr2

set_option maxRecDepth 100000 in
set_option maxHeartbeats 1000000 in
theorem t_type1 (l : Launch) (G : va_G) (cy : Nat → ClassId) (aX : Nat) (na tr sn : Nat → Nat) (hs : Int32) (hi : Nat) (ep fc : Int32) (ob sc tx kd fs sd td LN n : Nat) (x : Lx) (f : Nat → Int32) (c : Int32) (hl9 : l.stackTraces = false) (hx1 : ¬ inR c 32 126 = true) : TX l yX7_type wsX7_type { frames := 6, cells := 1, slots := 6, locals := 90 } G (PX G cy [(aX, .inr (11, [.ref (na 0), .ref (tr 0), .ref (sn 0), .int hs, .ref hi, .ref sc, .int ep, .int fc, .ref ob])), (sc, .inr (8, [.ref tx, .int (nI LN), .int (nI x.1), .int (bI x.2), .int (nI n), .ref kd, .ref fs, .ref sd, .ref td])), (tx, .inl (cy 1, 60, .inl f))]) [.ref aX, .int c] [(aX, .inr (11, [.ref (na 0), .ref (tr 0), .ref (sn 0), .int hs, .ref hi, .ref sc, .int ep, .int fc, .ref ob])), (sc, .inr (8, [.ref tx, .int (nI LN), .int (nI x.1), .int (bI x.2), .int (nI n), .ref kd, .ref fs, .ref sd, .ref td])), (tx, .inl (cy 1, 60, .inl f))] [(aX, .inr (11, [.ref (na 0), .ref (tr 0), .ref (sn 0), .int hs, .ref hi, .ref sc, .int ep, .int fc, .ref ob])), (sc, .inr (8, [.ref tx, .int (nI LN), .int (nI x.1), .int (bI x.2), .int (nI n), .ref kd, .ref fs, .ref sd, .ref td])), (tx, .inl (cy 1, 60, .inl f))] xIAE := by
  refine TX.ofW (cc := cX7_type) (maxL := 2) (ret := (some .int)) (by decide) rfl (Nat.le_of_ble_eq_true rfl) ?_
  intro p e s m below meth cq S9 htb hlocks hPB hD hS ls hl
  obtain ⟨hxq, hb, hml, hown, hts⟩ := id S9
  obtain ⟨⟨⟨hP, hK⟩, hTZ⟩, hXS⟩ := hPB
  have hl : lv_has ls 2 [(0, .ref aX), (1, .int c)] := hl
  refine lv_iload_n hxq hb dX7_type_0 rfl (lv_at hl 1 rfl) ?_
  refine lv_bipush (v := 32) hxq hb dX7_type_1 (by decide) ?_
  refine lv_icmp_lt (tgt := 12) hxq hb dX7_type_3 (by decide) (fun c_1 => ?_) (fun c_1 => ?_)
  · have c_1' : ¬ 32 ≤ c := Int32.not_le.mpr c_1
    exact tx_newW (text := "the character code is not between 32 and 126") S9 hl9 hXS exIAE (by decide +kernel) (by decide +kernel) (by decide +kernel) (fun w h => List.mem_cons_of_mem _ (List.mem_append_left _ (List.mem_append_left _ (List.mem_append_right _ h)))) htb hlocks hP hS hl.1 dX7_type_12 dX7_type_15 dX7_type_16 dX7_type_19 dX7_type_22 ⟨Nat.le_of_ble_eq_true rfl, Nat.le_of_ble_eq_true rfl, Nat.le_of_ble_eq_true rfl, Nat.le_of_ble_eq_true rfl⟩
  · have c_1' : 32 ≤ c := Int32.not_lt.mp c_1
    refine lv_iload_n hxq hb dX7_type_6 rfl (lv_at hl 1 rfl) ?_
    refine lv_bipush (v := 126) hxq hb dX7_type_7 (by decide) ?_
    refine lv_icmp_le (tgt := 23) hxq hb dX7_type_9 (by decide) (fun c_2 => ?_) (fun c_2 => ?_)
    · exact absurd (inR_iff.mpr ⟨c_1, Int32.not_lt.mpr c_2⟩) hx1
    · have c_2' : 126 < c := Int32.not_le.mp c_2
      exact tx_newW (text := "the character code is not between 32 and 126") S9 hl9 hXS exIAE (by decide +kernel) (by decide +kernel) (by decide +kernel) (fun w h => List.mem_cons_of_mem _ (List.mem_append_left _ (List.mem_append_left _ (List.mem_append_right _ h)))) htb hlocks hP hS hl.1 dX7_type_12 dX7_type_15 dX7_type_16 dX7_type_19 dX7_type_22 ⟨Nat.le_of_ble_eq_true rfl, Nat.le_of_ble_eq_true rfl, Nat.le_of_ble_eq_true rfl, Nat.le_of_ble_eq_true rfl⟩

set_option maxRecDepth 100000 in
set_option maxHeartbeats 1000000 in
theorem t_type2 (l : Launch) (G : va_G) (cy : Nat → ClassId) (aX : Nat) (na tr sn : Nat → Nat) (hs : Int32) (hi : Nat) (ep fc : Int32) (ob sc tx kd fs sd td LN n : Nat) (x : Lx) (f : Nat → Int32) (c : Int32) (hl9 : l.stackTraces = false) (hx1 : inR c 32 126 = true) (hL6 : LN = 60) : TX l yX7_type wsX7_type { frames := 6, cells := 1, slots := 6, locals := 90 } G (PX G cy [(aX, .inr (11, [.ref (na 0), .ref (tr 0), .ref (sn 0), .int hs, .ref hi, .ref sc, .int ep, .int fc, .ref ob])), (sc, .inr (8, [.ref tx, .int (nI LN), .int (nI x.1), .int (bI x.2), .int (nI n), .ref kd, .ref fs, .ref sd, .ref td])), (tx, .inl (cy 1, 60, .inl f))]) [.ref aX, .int c] [(aX, .inr (11, [.ref (na 0), .ref (tr 0), .ref (sn 0), .int hs, .ref hi, .ref sc, .int ep, .int fc, .ref ob])), (sc, .inr (8, [.ref tx, .int (nI LN), .int (nI x.1), .int (bI x.2), .int (nI n), .ref kd, .ref fs, .ref sd, .ref td])), (tx, .inl (cy 1, 60, .inl f))] [(aX, .inr (11, [.ref (na 0), .ref (tr 0), .ref (sn 0), .int hs, .ref hi, .ref sc, .int ep, .int fc, .ref ob])), (sc, .inr (8, [.ref tx, .int (nI LN), .int (nI x.1), .int (bI x.2), .int (nI n), .ref kd, .ref fs, .ref sd, .ref td])), (tx, .inl (cy 1, 60, .inl f))] xISE := by
  refine TX.ofW (cc := cX7_type) (maxL := 2) (ret := (some .int)) (by decide) rfl (Nat.le_of_ble_eq_true rfl) ?_
  intro p e s m below meth cq S9 htb hlocks hPB hD hS ls hl
  obtain ⟨hxq, hb, hml, hown, hts⟩ := id S9
  obtain ⟨⟨⟨hP, hK⟩, hTZ⟩, hXS⟩ := hPB
  have hl : lv_has ls 2 [(0, .ref aX), (1, .int c)] := hl
  have hi8 : ∀ w ∈ wsX40, w ∈ wsX7_type := by decide +kernel
  have hi11 : ∀ w ∈ wsX70, w ∈ wsX7_type := by decide +kernel
  have hf36 := hts (.fieldLink RX7 36 "BathLeague" "script" "LBathLeague$Script;") (by decide +kernel)
  have hf339 := hts (.fieldLink RX7 339 "BathLeague$Script" "length" "I") (by decide +kernel)
  have hr1 := (inR_iff.mp hx1).1
  have hr2 := (inR_iff.mp hx1).2
  refine lv_iload_n hxq hb dX7_type_0 rfl (lv_at hl 1 rfl) ?_
  refine lv_bipush (v := 32) hxq hb dX7_type_1 (by decide) ?_
  refine lv_icmp_lt (tgt := 12) hxq hb dX7_type_3 (by decide) (fun c_1 => ?_) (fun c_1 => ?_)
  · exact absurd c_1 hr1
  · have c_1' : 32 ≤ c := Int32.not_lt.mp c_1
    refine lv_iload_n hxq hb dX7_type_6 rfl (lv_at hl 1 rfl) ?_
    refine lv_bipush (v := 126) hxq hb dX7_type_7 (by decide) ?_
    refine lv_icmp_le (tgt := 23) hxq hb dX7_type_9 (by decide) (fun c_2 => ?_) (fun c_2 => ?_)
    · have c_2' : ¬ 126 < c := Int32.not_lt.mpr c_2
      refine lv_aload_n hxq hb dX7_type_23 rfl (lv_at hl 0 rfl) ?_
      refine va_get (D := G) (ci := 11) (v := .ref sc) (C := RX7) (T := TX7) (N := 9) hxq hb hts hi11 hown hK.1 hP 0 rfl rfl 5 (by decide) hf36 (fun _ h9 => h9) rfl dX7_type_24 ?_
      refine va_get (D := G) (ci := 8) (v := .int (nI LN)) (C := RX4) (T := TX4) (N := 9) hxq hb hts hi8 hown hK.1 hP 1 rfl rfl 1 (by decide) hf339 (fun _ h9 => h9) rfl dX7_type_27 ?_
      refine lv_bipush (v := 60) hxq hb dX7_type_30 (by decide) ?_
      refine lv_icmp_lt (tgt := 46) hxq hb dX7_type_32 (by decide) (fun c_3 => ?_) (fun c_3 => ?_)
      · have k_4 : LN < 60 := (m_ltN (a := LN) (b := 60) rfl rfl (by omega) (by omega)).mp c_3
        have k_4' : ¬ (60 ≤ LN) := by omega
        exfalso; omega
      · have k_5 : ¬ (LN < 60) := fun z => c_3 ((m_ltN (a := LN) (b := 60) rfl rfl (by omega) (by omega)).mpr z)
        have k_5' : 60 ≤ LN := by omega
        exact tx_newW (text := "the script buffer is full") S9 hl9 hXS exISE (by decide +kernel) (by decide +kernel) (by decide +kernel) (fun w h => List.mem_cons_of_mem _ (List.mem_append_left _ (List.mem_append_right _ h))) htb hlocks hP hS hl.1 dX7_type_35 dX7_type_38 dX7_type_39 dX7_type_42 dX7_type_45 ⟨Nat.le_of_ble_eq_true rfl, Nat.le_of_ble_eq_true rfl, Nat.le_of_ble_eq_true rfl, Nat.le_of_ble_eq_true rfl⟩
    · exact absurd (Int32.not_le.mp c_2) hr2
