set_option maxRecDepth 100000 in
set_option maxHeartbeats 1000000 in
theorem c_X7_requireBath (l : Launch) (G : va_G) (cy : Nat → ClassId) (aX : Nat) (na tr sn : Nat → Nat) (hs : Int32) (hi sc : Nat) (ep fc : Int32) (ob : Nat) (σ : St) (j : Nat) (ho : Ok σ) (hj : j < nB σ) : RO l yX7_requireBath wsX7_requireBath { frames := 1, cells := 0, slots := 0, locals := 21 } (PB G cy [(aX, .inr (11, [.ref (na 0), .ref (tr 0), .ref (sn 0), .int hs, .ref hi, .ref sc, .int ep, .int fc, .ref ob])), (na 0, .inr (9, [.ref (na 1), .ref (na 2), .ref (na 3), .ref (na 4)])), (na 1, .inr (4, [.int (nI (nB σ)), .ref (na 5), .ref (na 6), .ref (na 7), .ref (na 8)])), (na 5, .inl (cy 2, 5, .inl (vB σ))), (na 6, .inl (cy 2, 5, .inl (hB σ))), (na 7, .inl (cy 3, 5, .inl (pB σ))), (na 8, .inl (cy 3, 5, .inl (mB σ))), (na 2, .inr (5, [.int (nI (nD σ)), .ref (na 9), .ref (na 10), .ref (na 11), .ref (na 12), .ref (na 13)])), (na 9, .inl (cy 2, 6, .inl (bD σ))), (na 10, .inl (cy 2, 6, .inl (lD σ))), (na 11, .inl (cy 2, 6, .inl (uD σ))), (na 12, .inl (cy 2, 6, .inl (qD σ))), (na 13, .inl (cy 3, 6, .inl (wD σ))), (na 3, .inr (6, [.int (nI (nE σ)), .ref (na 14), .ref (na 15), .ref (na 16)])), (na 14, .inl (cy 1, 10, .inl (kE σ))), (na 15, .inl (cy 2, 10, .inl (bE σ))), (na 16, .inl (cy 2, 10, .inl (lE σ))), (na 4, .inr (10, [.int (tT σ), .int (dT σ), .int (aT σ), .int (rT σ), .int (hT σ), .int (xT σ)]))]) [.ref aX, .int (nI j)] (none) := by
  refine RO.ofW (cc := cX7_requireBath) (maxL := 2) (ret := none) (by decide) rfl (Nat.le_of_ble_eq_true rfl) ?_
  intro p e s m below meth c S9 hr hlocks hPB ls hl
  obtain ⟨hx, hb, hml, hown, hts⟩ := id S9
  obtain ⟨hP, hK⟩ := hPB
  have hl : lv_has ls 2 [(0, .ref aX), (1, .int (nI j))] := hl
  have hi9 : ∀ w ∈ wsX50, w ∈ wsX7_requireBath := by decide +kernel
  have hi11 : ∀ w ∈ wsX70, w ∈ wsX7_requireBath := by decide +kernel
  have hf12 := hts (.fieldLink RX7 12 "BathLeague" "now" "LBathLeague$State;") (by decide +kernel)
  have hf77 := hts (.fieldLink RX7 77 "BathLeague$State" "baths" "LBathLeague$Baths;") (by decide +kernel)
  have hN0 := ho.1
  have hM0 := ho.2.1
  have hE0 := ho.2.2.1
  have hF := m_inI hj (by omega)
  refine lv_aload_n hx hb dX7_requireBath_0 rfl (lv_at hl 0 rfl) ?_
  refine va_get (D := G) (ci := 11) (v := .ref (na 0)) (C := RX7) (T := TX7) (N := 9) hx hb hts hi11 hown hK.1 hP 0 rfl rfl 0 (by decide) hf12 (fun _ h9 => h9) rfl dX7_requireBath_1 ?_
  refine va_get (D := G) (ci := 9) (v := .ref (na 1)) (C := RX5) (T := TX5) (N := 4) hx hb hts hi9 hown hK.1 hP 1 rfl rfl 0 (by decide) hf77 (fun _ h9 => h9) rfl dX7_requireBath_4 ?_
  refine lv_iload_n hx hb dX7_requireBath_7 rfl (lv_at hl 1 rfl) ?_
  refine c_roVi S9 (c_X0_has l G cy (na 1) (na 5) (na 6) (na 7) (na 8) (nB σ) (vB σ) (hB σ) (pB σ) (mB σ) (nI j)) (cwV 1 hts gX7_requireBath_X0_has rfl rfl rfl (by decide +kernel) ⟨Nat.le_of_ble_eq_true rfl, Nat.le_of_ble_eq_true rfl⟩) PB.blind (va_recv hK.1 hP (ci := 4) (q0 := 2) rfl rfl) (PB.at hK (m_Ppart hP [2, 3, 4, 5, 6] rfl)) rfl hl.1 rfl (Nat.le_of_ble_eq_true rfl) ⟨Nat.zero_le _, Nat.zero_le _⟩ dX7_requireBath_8 ?_
  refine lv_t0 (if_pos hF) ?_
  refine lv_if_ne (tgt := 25) hx hb dX7_requireBath_11 (by decide) (fun c_1 => ?_) (fun c_1 => ?_)
  · exact W.vret hx hb hr (fun t ht _ => ⟨rfl, ht⟩) (fun q h => by cases h) dX7_requireBath_25 hlocks
  · exact absurd c_1 (by decide)

set_option maxRecDepth 100000 in
set_option maxHeartbeats 1000000 in
theorem c_X7_requireWater (l : Launch) (G : va_G) (cy : Nat → ClassId) (aX : Nat) (na tr sn : Nat → Nat) (hs : Int32) (hi sc : Nat) (ep fc : Int32) (ob : Nat) (σ : St) (j : Nat) (ho : Ok σ) (hj5 : j < 5) (hwt : wet (vB σ) j = true) : RO l yX7_requireWater wsX7_requireWater { frames := 1, cells := 0, slots := 0, locals := 21 } (PB G cy [(aX, .inr (11, [.ref (na 0), .ref (tr 0), .ref (sn 0), .int hs, .ref hi, .ref sc, .int ep, .int fc, .ref ob])), (na 0, .inr (9, [.ref (na 1), .ref (na 2), .ref (na 3), .ref (na 4)])), (na 1, .inr (4, [.int (nI (nB σ)), .ref (na 5), .ref (na 6), .ref (na 7), .ref (na 8)])), (na 5, .inl (cy 2, 5, .inl (vB σ))), (na 6, .inl (cy 2, 5, .inl (hB σ))), (na 7, .inl (cy 3, 5, .inl (pB σ))), (na 8, .inl (cy 3, 5, .inl (mB σ))), (na 2, .inr (5, [.int (nI (nD σ)), .ref (na 9), .ref (na 10), .ref (na 11), .ref (na 12), .ref (na 13)])), (na 9, .inl (cy 2, 6, .inl (bD σ))), (na 10, .inl (cy 2, 6, .inl (lD σ))), (na 11, .inl (cy 2, 6, .inl (uD σ))), (na 12, .inl (cy 2, 6, .inl (qD σ))), (na 13, .inl (cy 3, 6, .inl (wD σ))), (na 3, .inr (6, [.int (nI (nE σ)), .ref (na 14), .ref (na 15), .ref (na 16)])), (na 14, .inl (cy 1, 10, .inl (kE σ))), (na 15, .inl (cy 2, 10, .inl (bE σ))), (na 16, .inl (cy 2, 10, .inl (lE σ))), (na 4, .inr (10, [.int (tT σ), .int (dT σ), .int (aT σ), .int (rT σ), .int (hT σ), .int (xT σ)]))]) [.ref aX, .int (nI j)] (none) := by
  refine RO.ofW (cc := cX7_requireWater) (maxL := 2) (ret := none) (by decide) rfl (Nat.le_of_ble_eq_true rfl) ?_
  intro p e s m below meth c S9 hr hlocks hPB ls hl
  obtain ⟨hx, hb, hml, hown, hts⟩ := id S9
  obtain ⟨hP, hK⟩ := hPB
  have hl : lv_has ls 2 [(0, .ref aX), (1, .int (nI j))] := hl
  have hi9 : ∀ w ∈ wsX50, w ∈ wsX7_requireWater := by decide +kernel
  have hi11 : ∀ w ∈ wsX70, w ∈ wsX7_requireWater := by decide +kernel
  have hf12 := hts (.fieldLink RX7 12 "BathLeague" "now" "LBathLeague$State;") (by decide +kernel)
  have hf77 := hts (.fieldLink RX7 77 "BathLeague$State" "baths" "LBathLeague$Baths;") (by decide +kernel)
  have hN0 := ho.1
  have hM0 := ho.2.1
  have hE0 := ho.2.2.1
  refine lv_aload_n hx hb dX7_requireWater_0 rfl (lv_at hl 0 rfl) ?_
  refine va_get (D := G) (ci := 11) (v := .ref (na 0)) (C := RX7) (T := TX7) (N := 9) hx hb hts hi11 hown hK.1 hP 0 rfl rfl 0 (by decide) hf12 (fun _ h9 => h9) rfl dX7_requireWater_1 ?_
  refine va_get (D := G) (ci := 9) (v := .ref (na 1)) (C := RX5) (T := TX5) (N := 4) hx hb hts hi9 hown hK.1 hP 1 rfl rfl 0 (by decide) hf77 (fun _ h9 => h9) rfl dX7_requireWater_4 ?_
  refine lv_iload_n hx hb dX7_requireWater_7 rfl (lv_at hl 1 rfl) ?_
  refine c_roVi S9 (c_X0_hasWater l G cy (na 1) (na 5) (na 6) (na 7) (na 8) (nB σ) (vB σ) (hB σ) (pB σ) (mB σ) j (by omega)) (cwV 1 hts gX7_requireWater_X0_hasWater rfl rfl rfl (by decide +kernel) ⟨Nat.le_of_ble_eq_true rfl, Nat.le_of_ble_eq_true rfl⟩) PB.blind (va_recv hK.1 hP (ci := 4) (q0 := 2) rfl rfl) (PB.at hK (m_Ppart hP [2, 3, 4, 5, 6] rfl)) rfl hl.1 rfl (Nat.le_of_ble_eq_true rfl) ⟨Nat.zero_le _, Nat.zero_le _⟩ dX7_requireWater_8 ?_
  refine lv_t0 (if_pos hwt) ?_
  refine lv_if_ne (tgt := 25) hx hb dX7_requireWater_11 (by decide) (fun c_1 => ?_) (fun c_1 => ?_)
  · exact W.vret hx hb hr (fun t ht _ => ⟨rfl, ht⟩) (fun q h => by cases h) dX7_requireWater_25 hlocks
  · exact absurd c_1 (by decide)

set_option maxRecDepth 100000 in
set_option maxHeartbeats 1000000 in
theorem c_X7_requireDuck (l : Launch) (G : va_G) (cy : Nat → ClassId) (aX : Nat) (na tr sn : Nat → Nat) (hs : Int32) (hi sc : Nat) (ep fc : Int32) (ob : Nat) (σ : St) (j : Nat) (ho : Ok σ) (hj : j < nD σ) : RO l yX7_requireDuck wsX7_requireDuck { frames := 0, cells := 0, slots := 0, locals := 0 } (PB G cy [(aX, .inr (11, [.ref (na 0), .ref (tr 0), .ref (sn 0), .int hs, .ref hi, .ref sc, .int ep, .int fc, .ref ob])), (na 0, .inr (9, [.ref (na 1), .ref (na 2), .ref (na 3), .ref (na 4)])), (na 1, .inr (4, [.int (nI (nB σ)), .ref (na 5), .ref (na 6), .ref (na 7), .ref (na 8)])), (na 5, .inl (cy 2, 5, .inl (vB σ))), (na 6, .inl (cy 2, 5, .inl (hB σ))), (na 7, .inl (cy 3, 5, .inl (pB σ))), (na 8, .inl (cy 3, 5, .inl (mB σ))), (na 2, .inr (5, [.int (nI (nD σ)), .ref (na 9), .ref (na 10), .ref (na 11), .ref (na 12), .ref (na 13)])), (na 9, .inl (cy 2, 6, .inl (bD σ))), (na 10, .inl (cy 2, 6, .inl (lD σ))), (na 11, .inl (cy 2, 6, .inl (uD σ))), (na 12, .inl (cy 2, 6, .inl (qD σ))), (na 13, .inl (cy 3, 6, .inl (wD σ))), (na 3, .inr (6, [.int (nI (nE σ)), .ref (na 14), .ref (na 15), .ref (na 16)])), (na 14, .inl (cy 1, 10, .inl (kE σ))), (na 15, .inl (cy 2, 10, .inl (bE σ))), (na 16, .inl (cy 2, 10, .inl (lE σ))), (na 4, .inr (10, [.int (tT σ), .int (dT σ), .int (aT σ), .int (rT σ), .int (hT σ), .int (xT σ)]))]) [.ref aX, .int (nI j)] (none) := by
  refine RO.ofW (cc := cX7_requireDuck) (maxL := 2) (ret := none) (by decide) rfl (Nat.le_of_ble_eq_true rfl) ?_
  intro p e s m below meth c S9 hr hlocks hPB ls hl
  obtain ⟨hx, hb, hml, hown, hts⟩ := id S9
  obtain ⟨hP, hK⟩ := hPB
  have hl : lv_has ls 2 [(0, .ref aX), (1, .int (nI j))] := hl
  have hi5 : ∀ w ∈ wsX10, w ∈ wsX7_requireDuck := by decide +kernel
  have hi9 : ∀ w ∈ wsX50, w ∈ wsX7_requireDuck := by decide +kernel
  have hi11 : ∀ w ∈ wsX70, w ∈ wsX7_requireDuck := by decide +kernel
  have hf12 := hts (.fieldLink RX7 12 "BathLeague" "now" "LBathLeague$State;") (by decide +kernel)
  have hf232 := hts (.fieldLink RX7 232 "BathLeague$State" "ducks" "LBathLeague$Ducks;") (by decide +kernel)
  have hf236 := hts (.fieldLink RX7 236 "BathLeague$Ducks" "count" "I") (by decide +kernel)
  have hN0 := ho.1
  have hM0 := ho.2.1
  have hE0 := ho.2.2.1
  refine lv_iload_n hx hb dX7_requireDuck_0 rfl (lv_at hl 1 rfl) ?_
  refine lv_if_lt (tgt := 18) hx hb dX7_requireDuck_1 (by decide) (fun c_1 => ?_) (fun c_1 => ?_)
  · have k_2 : j < 0 := (m_ltN (a := j) (b := 0) rfl rfl (by omega) (by omega)).mp c_1
    have k_2' : ¬ (0 ≤ j) := by omega
    exfalso; omega
  · have k_3 : ¬ (j < 0) := fun z => c_1 ((m_ltN (a := j) (b := 0) rfl rfl (by omega) (by omega)).mpr z)
    have k_3' : 0 ≤ j := by omega
    refine lv_iload_n hx hb dX7_requireDuck_4 rfl (lv_at hl 1 rfl) ?_
    refine lv_aload_n hx hb dX7_requireDuck_5 rfl (lv_at hl 0 rfl) ?_
    refine va_get (D := G) (ci := 11) (v := .ref (na 0)) (C := RX7) (T := TX7) (N := 9) hx hb hts hi11 hown hK.1 hP 0 rfl rfl 0 (by decide) hf12 (fun _ h9 => h9) rfl dX7_requireDuck_6 ?_
    refine va_get (D := G) (ci := 9) (v := .ref (na 2)) (C := RX5) (T := TX5) (N := 4) hx hb hts hi9 hown hK.1 hP 1 rfl rfl 1 (by decide) hf232 (fun _ h9 => h9) rfl dX7_requireDuck_9 ?_
    refine va_get (D := G) (ci := 5) (v := .int (nI (nD σ))) (C := RX1) (T := TX1) (N := 6) hx hb hts hi5 hown hK.1 hP 7 rfl rfl 0 (by decide) hf236 (fun _ h9 => h9) rfl dX7_requireDuck_12 ?_
    refine lv_icmp_lt (tgt := 29) hx hb dX7_requireDuck_15 (by decide) (fun c_4 => ?_) (fun c_4 => ?_)
    · have k_5 : j < nD σ := (m_ltN (a := j) (b := nD σ) rfl rfl (by omega) (by omega)).mp c_4
      have k_5' : ¬ (nD σ ≤ j) := by omega
      exact W.vret hx hb hr (fun t ht _ => ⟨rfl, ht⟩) (fun q h => by cases h) dX7_requireDuck_29 hlocks
    · have k_6 : ¬ (j < nD σ) := fun z => c_4 ((m_ltN (a := j) (b := nD σ) rfl rfl (by omega) (by omega)).mpr z)
      have k_6' : nD σ ≤ j := by omega
      exfalso; omega

set_option maxRecDepth 100000 in
set_option maxHeartbeats 1000000 in
theorem c_X7_requireElement (l : Launch) (G : va_G) (cy : Nat → ClassId) (j N : Nat) (hj : j < N) (hNq : N < 1000) : RO l yX7_requireElement wsX7_requireElement { frames := 0, cells := 0, slots := 0, locals := 0 } (PB G cy []) [.int (nI j), .int (nI N)] (none) := by
  refine RO.ofW (cc := cX7_requireElement) (maxL := 2) (ret := none) (by decide) rfl (Nat.le_of_ble_eq_true rfl) ?_
  intro p e s m below meth c S9 hr hlocks hPB ls hl
  obtain ⟨hx, hb, hml, hown, hts⟩ := id S9
  obtain ⟨hP, hK⟩ := hPB
  have hl : lv_has ls 2 [(0, .int (nI j)), (1, .int (nI N))] := hl
  refine lv_iload_n hx hb dX7_requireElement_0 rfl (lv_at hl 0 rfl) ?_
  refine lv_if_lt (tgt := 9) hx hb dX7_requireElement_1 (by decide) (fun c_1 => ?_) (fun c_1 => ?_)
  · have k_2 : j < 0 := (m_ltN (a := j) (b := 0) rfl rfl (by omega) (by omega)).mp c_1
    have k_2' : ¬ (0 ≤ j) := by omega
    exfalso; omega
  · have k_3 : ¬ (j < 0) := fun z => c_1 ((m_ltN (a := j) (b := 0) rfl rfl (by omega) (by omega)).mpr z)
    have k_3' : 0 ≤ j := by omega
    refine lv_iload_n hx hb dX7_requireElement_4 rfl (lv_at hl 0 rfl) ?_
    refine lv_iload_n hx hb dX7_requireElement_5 rfl (lv_at hl 1 rfl) ?_
    refine lv_icmp_lt (tgt := 20) hx hb dX7_requireElement_6 (by decide) (fun c_4 => ?_) (fun c_4 => ?_)
    · have k_5 : j < N := (m_ltN (a := j) (b := N) rfl rfl (by omega) (by omega)).mp c_4
      have k_5' : ¬ (N ≤ j) := by omega
      exact W.vret hx hb hr (fun t ht _ => ⟨rfl, ht⟩) (fun q h => by cases h) dX7_requireElement_20 hlocks
    · have k_6 : ¬ (j < N) := fun z => c_4 ((m_ltN (a := j) (b := N) rfl rfl (by omega) (by omega)).mpr z)
      have k_6' : N ≤ j := by omega
      exfalso; omega

set_option maxRecDepth 100000 in
set_option maxHeartbeats 1000000 in
theorem c_X7_requireLitres (l : Launch) (G : va_G) (cy : Nat → ClassId) (x : Int32) (hx9 : ¬ x = -1) : RO l yX7_requireLitres wsX7_requireLitres { frames := 0, cells := 0, slots := 0, locals := 0 } (PB G cy []) [.int x] (some (.int x)) := by
  refine RO.ofW (cc := cX7_requireLitres) (maxL := 1) (ret := (some .int)) (by decide) rfl (Nat.le_of_ble_eq_true rfl) ?_
  intro p e s m below meth c S9 hr hlocks hPB ls hl
  obtain ⟨hx, hb, hml, hown, hts⟩ := id S9
  obtain ⟨hP, hK⟩ := hPB
  have hl : lv_has ls 1 [(0, .int x)] := hl
  refine lv_iload_n hx hb dX7_requireLitres_0 rfl (lv_at hl 0 rfl) ?_
  refine lv_iconst (v := (-1)) hx hb dX7_requireLitres_1 (by decide) ?_
  refine lv_icmp_ne (tgt := 16) hx hb dX7_requireLitres_2 (by decide) (fun c_1 => ?_) (fun c_1 => ?_)
  · refine lv_iload_n hx hb dX7_requireLitres_16 rfl (lv_at hl 0 rfl) ?_
    exact ro_iret hx hb hr hlocks rfl dX7_requireLitres_17
  · exact absurd c_1 hx9

set_option maxRecDepth 100000 in
set_option maxHeartbeats 1000000 in
theorem c_X7_requirePlan (l : Launch) (G : va_G) (cy : Nat → ClassId) (aX : Nat) (na tr sn : Nat → Nat) (hs : Int32) (hi sc : Nat) (ep fc : Int32) (ob : Nat) (σ : St) (j : Nat) (t g : Int32) (ho : Ok σ) (hj : j < nB σ) (ht9 : tapB t = true) (hg9 : inR g 0 99 = true) (hwt : wet (vB σ) j = true) : RO l yX7_requirePlan wsX7_requirePlan { frames := 2, cells := 0, slots := 0, locals := 42 } (PB G cy [(aX, .inr (11, [.ref (na 0), .ref (tr 0), .ref (sn 0), .int hs, .ref hi, .ref sc, .int ep, .int fc, .ref ob])), (na 0, .inr (9, [.ref (na 1), .ref (na 2), .ref (na 3), .ref (na 4)])), (na 1, .inr (4, [.int (nI (nB σ)), .ref (na 5), .ref (na 6), .ref (na 7), .ref (na 8)])), (na 5, .inl (cy 2, 5, .inl (vB σ))), (na 6, .inl (cy 2, 5, .inl (hB σ))), (na 7, .inl (cy 3, 5, .inl (pB σ))), (na 8, .inl (cy 3, 5, .inl (mB σ))), (na 2, .inr (5, [.int (nI (nD σ)), .ref (na 9), .ref (na 10), .ref (na 11), .ref (na 12), .ref (na 13)])), (na 9, .inl (cy 2, 6, .inl (bD σ))), (na 10, .inl (cy 2, 6, .inl (lD σ))), (na 11, .inl (cy 2, 6, .inl (uD σ))), (na 12, .inl (cy 2, 6, .inl (qD σ))), (na 13, .inl (cy 3, 6, .inl (wD σ))), (na 3, .inr (6, [.int (nI (nE σ)), .ref (na 14), .ref (na 15), .ref (na 16)])), (na 14, .inl (cy 1, 10, .inl (kE σ))), (na 15, .inl (cy 2, 10, .inl (bE σ))), (na 16, .inl (cy 2, 10, .inl (lE σ))), (na 4, .inr (10, [.int (tT σ), .int (dT σ), .int (aT σ), .int (rT σ), .int (hT σ), .int (xT σ)]))]) [.ref aX, .int (nI j), .int t, .int g] (none) := by
  refine RO.ofW (cc := cX7_requirePlan) (maxL := 4) (ret := none) (by decide) rfl (Nat.le_of_ble_eq_true rfl) ?_
  intro p e s m below meth c S9 hr hlocks hPB ls hl
  obtain ⟨hx, hb, hml, hown, hts⟩ := id S9
  obtain ⟨hP, hK⟩ := hPB
  have hl : lv_has ls 4 [(0, .ref aX), (1, .int (nI j)), (2, .int t), (3, .int g)] := hl
  have hN0 := ho.1
  have hM0 := ho.2.1
  have hE0 := ho.2.2.1
  have hg1 := (inR_iff.mp hg9).1
  have hg2 := (inR_iff.mp hg9).2
  refine lv_aload_n hx hb dX7_requirePlan_0 rfl (lv_at hl 0 rfl) ?_
  refine lv_iload_n hx hb dX7_requirePlan_1 rfl (lv_at hl 1 rfl) ?_
  refine c_roVv S9 (c_X7_requireBath l G cy aX na tr sn hs hi sc ep fc ob σ j ho hj) (cwV 1 hts gX7_requirePlan_X7_requireBath rfl rfl rfl (by decide +kernel) ⟨Nat.le_of_ble_eq_true rfl, Nat.le_of_ble_eq_true rfl⟩) PB.blind (va_recv hK.1 hP (ci := 11) (q0 := 0) rfl rfl) (PB.at hK (m_Ppart hP [0, 1, 2, 3, 4, 5, 6, 7, 8, 9, 10, 11, 12, 13, 14, 15, 16, 17] rfl)) rfl hl.1 rfl (Nat.le_of_ble_eq_true rfl) ⟨Nat.zero_le _, Nat.zero_le _⟩ dX7_requirePlan_2 ?_
  refine lv_iload_n hx hb dX7_requirePlan_5 rfl (lv_at hl 2 rfl) ?_
  refine c_roSi S9 (c_X7_isTap l G cy t) (va_cwS 1 hts gX7_requirePlan_X7_isTap rfl rfl rfl (by decide +kernel) ⟨Nat.le_of_ble_eq_true rfl, Nat.le_of_ble_eq_true rfl⟩) PB.blind (PB.at hK (m_Ppart hP [] rfl)) rfl hl.1 rfl (Nat.le_of_ble_eq_true rfl) ⟨Nat.zero_le _, Nat.zero_le _⟩ dX7_requirePlan_6 ?_
  refine lv_t0 (if_pos ht9) ?_
  refine lv_if_eq (tgt := 22) hx hb dX7_requirePlan_9 (by decide) (fun c_1 => ?_) (fun c_1 => ?_)
  · exact absurd c_1 (by decide)
  · refine lv_iload_n hx hb dX7_requirePlan_12 rfl (lv_at hl 3 rfl) ?_
    refine lv_if_lt (tgt := 22) hx hb dX7_requirePlan_13 (by decide) (fun c_2 => ?_) (fun c_2 => ?_)
    · exact absurd c_2 hg1
    · have c_2' : 0 ≤ g := Int32.not_lt.mp c_2
      refine lv_iload_n hx hb dX7_requirePlan_16 rfl (lv_at hl 3 rfl) ?_
      refine lv_bipush (v := 99) hx hb dX7_requirePlan_17 (by decide) ?_
      refine lv_icmp_le (tgt := 33) hx hb dX7_requirePlan_19 (by decide) (fun c_3 => ?_) (fun c_3 => ?_)
      · have c_3' : ¬ 99 < g := Int32.not_lt.mpr c_3
        refine lv_aload_n hx hb dX7_requirePlan_33 rfl (lv_at hl 0 rfl) ?_
        refine lv_iload_n hx hb dX7_requirePlan_34 rfl (lv_at hl 1 rfl) ?_
        refine c_roVv S9 (c_X7_requireWater l G cy aX na tr sn hs hi sc ep fc ob σ j ho (by omega) hwt) (cwV 1 hts gX7_requirePlan_X7_requireWater rfl rfl rfl (by decide +kernel) ⟨Nat.le_of_ble_eq_true rfl, Nat.le_of_ble_eq_true rfl⟩) PB.blind (va_recv hK.1 hP (ci := 11) (q0 := 0) rfl rfl) (PB.at hK (m_Ppart hP [0, 1, 2, 3, 4, 5, 6, 7, 8, 9, 10, 11, 12, 13, 14, 15, 16, 17] rfl)) rfl hl.1 rfl (Nat.le_of_ble_eq_true rfl) ⟨Nat.zero_le _, Nat.zero_le _⟩ dX7_requirePlan_35 ?_
        exact W.vret hx hb hr (fun t ht _ => ⟨rfl, ht⟩) (fun q h => by cases h) dX7_requirePlan_38 hlocks
      · exact absurd (Int32.not_lt.mp hg2) c_3

set_option maxRecDepth 100000 in
set_option maxHeartbeats 1000000 in
theorem c_X7_bathCount (l : Launch) (G : va_G) (cy : Nat → ClassId) (aX : Nat) (na tr sn : Nat → Nat) (hs : Int32) (hi sc : Nat) (ep fc : Int32) (ob : Nat) (σ : St) (ho : Ok σ) : RO l yX7_bathCount wsX7_bathCount { frames := 0, cells := 0, slots := 0, locals := 0 } (PB G cy [(aX, .inr (11, [.ref (na 0), .ref (tr 0), .ref (sn 0), .int hs, .ref hi, .ref sc, .int ep, .int fc, .ref ob])), (na 0, .inr (9, [.ref (na 1), .ref (na 2), .ref (na 3), .ref (na 4)])), (na 1, .inr (4, [.int (nI (nB σ)), .ref (na 5), .ref (na 6), .ref (na 7), .ref (na 8)])), (na 5, .inl (cy 2, 5, .inl (vB σ))), (na 6, .inl (cy 2, 5, .inl (hB σ))), (na 7, .inl (cy 3, 5, .inl (pB σ))), (na 8, .inl (cy 3, 5, .inl (mB σ))), (na 2, .inr (5, [.int (nI (nD σ)), .ref (na 9), .ref (na 10), .ref (na 11), .ref (na 12), .ref (na 13)])), (na 9, .inl (cy 2, 6, .inl (bD σ))), (na 10, .inl (cy 2, 6, .inl (lD σ))), (na 11, .inl (cy 2, 6, .inl (uD σ))), (na 12, .inl (cy 2, 6, .inl (qD σ))), (na 13, .inl (cy 3, 6, .inl (wD σ))), (na 3, .inr (6, [.int (nI (nE σ)), .ref (na 14), .ref (na 15), .ref (na 16)])), (na 14, .inl (cy 1, 10, .inl (kE σ))), (na 15, .inl (cy 2, 10, .inl (bE σ))), (na 16, .inl (cy 2, 10, .inl (lE σ))), (na 4, .inr (10, [.int (tT σ), .int (dT σ), .int (aT σ), .int (rT σ), .int (hT σ), .int (xT σ)]))]) [.ref aX] (some (.int (nI (nB σ)))) := by
  refine RO.ofW (cc := cX7_bathCount) (maxL := 1) (ret := (some .int)) (by decide) rfl (Nat.le_of_ble_eq_true rfl) ?_
  intro p e s m below meth c S9 hr hlocks hPB ls hl
  obtain ⟨hx, hb, hml, hown, hts⟩ := id S9
  obtain ⟨hP, hK⟩ := hPB
  have hl : lv_has ls 1 [(0, .ref aX)] := hl
  have hi4 : ∀ w ∈ wsX00, w ∈ wsX7_bathCount := by decide +kernel
  have hi9 : ∀ w ∈ wsX50, w ∈ wsX7_bathCount := by decide +kernel
  have hi11 : ∀ w ∈ wsX70, w ∈ wsX7_bathCount := by decide +kernel
  have hf12 := hts (.fieldLink RX7 12 "BathLeague" "now" "LBathLeague$State;") (by decide +kernel)
  have hf77 := hts (.fieldLink RX7 77 "BathLeague$State" "baths" "LBathLeague$Baths;") (by decide +kernel)
  have hf141 := hts (.fieldLink RX7 141 "BathLeague$Baths" "count" "I") (by decide +kernel)
  have hN0 := ho.1
  have hM0 := ho.2.1
  have hE0 := ho.2.2.1
  refine lv_aload_n hx hb dX7_bathCount_0 rfl (lv_at hl 0 rfl) ?_
  refine va_get (D := G) (ci := 11) (v := .ref (na 0)) (C := RX7) (T := TX7) (N := 9) hx hb hts hi11 hown hK.1 hP 0 rfl rfl 0 (by decide) hf12 (fun _ h9 => h9) rfl dX7_bathCount_1 ?_
  refine va_get (D := G) (ci := 9) (v := .ref (na 1)) (C := RX5) (T := TX5) (N := 4) hx hb hts hi9 hown hK.1 hP 1 rfl rfl 0 (by decide) hf77 (fun _ h9 => h9) rfl dX7_bathCount_4 ?_
  refine va_get (D := G) (ci := 4) (v := .int (nI (nB σ))) (C := RX0) (T := TX0) (N := 5) hx hb hts hi4 hown hK.1 hP 2 rfl rfl 0 (by decide) hf141 (fun _ h9 => h9) rfl dX7_bathCount_7 ?_
  exact ro_iret hx hb hr hlocks rfl dX7_bathCount_10

set_option maxRecDepth 100000 in
set_option maxHeartbeats 1000000 in
theorem c_X7_duckCount (l : Launch) (G : va_G) (cy : Nat → ClassId) (aX : Nat) (na tr sn : Nat → Nat) (hs : Int32) (hi sc : Nat) (ep fc : Int32) (ob : Nat) (σ : St) (ho : Ok σ) : RO l yX7_duckCount wsX7_duckCount { frames := 0, cells := 0, slots := 0, locals := 0 } (PB G cy [(aX, .inr (11, [.ref (na 0), .ref (tr 0), .ref (sn 0), .int hs, .ref hi, .ref sc, .int ep, .int fc, .ref ob])), (na 0, .inr (9, [.ref (na 1), .ref (na 2), .ref (na 3), .ref (na 4)])), (na 1, .inr (4, [.int (nI (nB σ)), .ref (na 5), .ref (na 6), .ref (na 7), .ref (na 8)])), (na 5, .inl (cy 2, 5, .inl (vB σ))), (na 6, .inl (cy 2, 5, .inl (hB σ))), (na 7, .inl (cy 3, 5, .inl (pB σ))), (na 8, .inl (cy 3, 5, .inl (mB σ))), (na 2, .inr (5, [.int (nI (nD σ)), .ref (na 9), .ref (na 10), .ref (na 11), .ref (na 12), .ref (na 13)])), (na 9, .inl (cy 2, 6, .inl (bD σ))), (na 10, .inl (cy 2, 6, .inl (lD σ))), (na 11, .inl (cy 2, 6, .inl (uD σ))), (na 12, .inl (cy 2, 6, .inl (qD σ))), (na 13, .inl (cy 3, 6, .inl (wD σ))), (na 3, .inr (6, [.int (nI (nE σ)), .ref (na 14), .ref (na 15), .ref (na 16)])), (na 14, .inl (cy 1, 10, .inl (kE σ))), (na 15, .inl (cy 2, 10, .inl (bE σ))), (na 16, .inl (cy 2, 10, .inl (lE σ))), (na 4, .inr (10, [.int (tT σ), .int (dT σ), .int (aT σ), .int (rT σ), .int (hT σ), .int (xT σ)]))]) [.ref aX] (some (.int (nI (nD σ)))) := by
  refine RO.ofW (cc := cX7_duckCount) (maxL := 1) (ret := (some .int)) (by decide) rfl (Nat.le_of_ble_eq_true rfl) ?_
  intro p e s m below meth c S9 hr hlocks hPB ls hl
  obtain ⟨hx, hb, hml, hown, hts⟩ := id S9
  obtain ⟨hP, hK⟩ := hPB
  have hl : lv_has ls 1 [(0, .ref aX)] := hl
  have hi5 : ∀ w ∈ wsX10, w ∈ wsX7_duckCount := by decide +kernel
  have hi9 : ∀ w ∈ wsX50, w ∈ wsX7_duckCount := by decide +kernel
  have hi11 : ∀ w ∈ wsX70, w ∈ wsX7_duckCount := by decide +kernel
  have hf12 := hts (.fieldLink RX7 12 "BathLeague" "now" "LBathLeague$State;") (by decide +kernel)
  have hf232 := hts (.fieldLink RX7 232 "BathLeague$State" "ducks" "LBathLeague$Ducks;") (by decide +kernel)
  have hf236 := hts (.fieldLink RX7 236 "BathLeague$Ducks" "count" "I") (by decide +kernel)
  have hN0 := ho.1
  have hM0 := ho.2.1
  have hE0 := ho.2.2.1
  refine lv_aload_n hx hb dX7_duckCount_0 rfl (lv_at hl 0 rfl) ?_
  refine va_get (D := G) (ci := 11) (v := .ref (na 0)) (C := RX7) (T := TX7) (N := 9) hx hb hts hi11 hown hK.1 hP 0 rfl rfl 0 (by decide) hf12 (fun _ h9 => h9) rfl dX7_duckCount_1 ?_
  refine va_get (D := G) (ci := 9) (v := .ref (na 2)) (C := RX5) (T := TX5) (N := 4) hx hb hts hi9 hown hK.1 hP 1 rfl rfl 1 (by decide) hf232 (fun _ h9 => h9) rfl dX7_duckCount_4 ?_
  refine va_get (D := G) (ci := 5) (v := .int (nI (nD σ))) (C := RX1) (T := TX1) (N := 6) hx hb hts hi5 hown hK.1 hP 7 rfl rfl 0 (by decide) hf236 (fun _ h9 => h9) rfl dX7_duckCount_7 ?_
  exact ro_iret hx hb hr hlocks rfl dX7_duckCount_10

set_option maxRecDepth 100000 in
set_option maxHeartbeats 1000000 in
theorem c_X7_eventCount (l : Launch) (G : va_G) (cy : Nat → ClassId) (aX : Nat) (na tr sn : Nat → Nat) (hs : Int32) (hi sc : Nat) (ep fc : Int32) (ob : Nat) (σ : St) (ho : Ok σ) : RO l yX7_eventCount wsX7_eventCount { frames := 0, cells := 0, slots := 0, locals := 0 } (PB G cy [(aX, .inr (11, [.ref (na 0), .ref (tr 0), .ref (sn 0), .int hs, .ref hi, .ref sc, .int ep, .int fc, .ref ob])), (na 0, .inr (9, [.ref (na 1), .ref (na 2), .ref (na 3), .ref (na 4)])), (na 1, .inr (4, [.int (nI (nB σ)), .ref (na 5), .ref (na 6), .ref (na 7), .ref (na 8)])), (na 5, .inl (cy 2, 5, .inl (vB σ))), (na 6, .inl (cy 2, 5, .inl (hB σ))), (na 7, .inl (cy 3, 5, .inl (pB σ))), (na 8, .inl (cy 3, 5, .inl (mB σ))), (na 2, .inr (5, [.int (nI (nD σ)), .ref (na 9), .ref (na 10), .ref (na 11), .ref (na 12), .ref (na 13)])), (na 9, .inl (cy 2, 6, .inl (bD σ))), (na 10, .inl (cy 2, 6, .inl (lD σ))), (na 11, .inl (cy 2, 6, .inl (uD σ))), (na 12, .inl (cy 2, 6, .inl (qD σ))), (na 13, .inl (cy 3, 6, .inl (wD σ))), (na 3, .inr (6, [.int (nI (nE σ)), .ref (na 14), .ref (na 15), .ref (na 16)])), (na 14, .inl (cy 1, 10, .inl (kE σ))), (na 15, .inl (cy 2, 10, .inl (bE σ))), (na 16, .inl (cy 2, 10, .inl (lE σ))), (na 4, .inr (10, [.int (tT σ), .int (dT σ), .int (aT σ), .int (rT σ), .int (hT σ), .int (xT σ)]))]) [.ref aX] (some (.int (nI (nE σ)))) := by
  refine RO.ofW (cc := cX7_eventCount) (maxL := 1) (ret := (some .int)) (by decide) rfl (Nat.le_of_ble_eq_true rfl) ?_
  intro p e s m below meth c S9 hr hlocks hPB ls hl
  obtain ⟨hx, hb, hml, hown, hts⟩ := id S9
  obtain ⟨hP, hK⟩ := hPB
  have hl : lv_has ls 1 [(0, .ref aX)] := hl
  have hi6 : ∀ w ∈ wsX20, w ∈ wsX7_eventCount := by decide +kernel
  have hi9 : ∀ w ∈ wsX50, w ∈ wsX7_eventCount := by decide +kernel
  have hi11 : ∀ w ∈ wsX70, w ∈ wsX7_eventCount := by decide +kernel
  have hf12 := hts (.fieldLink RX7 12 "BathLeague" "now" "LBathLeague$State;") (by decide +kernel)
  have hf261 := hts (.fieldLink RX7 261 "BathLeague$State" "events" "LBathLeague$Events;") (by decide +kernel)
  have hf265 := hts (.fieldLink RX7 265 "BathLeague$Events" "count" "I") (by decide +kernel)
  have hN0 := ho.1
  have hM0 := ho.2.1
  have hE0 := ho.2.2.1
  refine lv_aload_n hx hb dX7_eventCount_0 rfl (lv_at hl 0 rfl) ?_
  refine va_get (D := G) (ci := 11) (v := .ref (na 0)) (C := RX7) (T := TX7) (N := 9) hx hb hts hi11 hown hK.1 hP 0 rfl rfl 0 (by decide) hf12 (fun _ h9 => h9) rfl dX7_eventCount_1 ?_
  refine va_get (D := G) (ci := 9) (v := .ref (na 3)) (C := RX5) (T := TX5) (N := 4) hx hb hts hi9 hown hK.1 hP 1 rfl rfl 2 (by decide) hf261 (fun _ h9 => h9) rfl dX7_eventCount_4 ?_
  refine va_get (D := G) (ci := 6) (v := .int (nI (nE σ))) (C := RX2) (T := TX2) (N := 4) hx hb hts hi6 hown hK.1 hP 13 rfl rfl 0 (by decide) hf265 (fun _ h9 => h9) rfl dX7_eventCount_7 ?_
  exact ro_iret hx hb hr hlocks rfl dX7_eventCount_10

set_option maxRecDepth 100000 in
set_option maxHeartbeats 1000000 in
theorem c_X7_time (l : Launch) (G : va_G) (cy : Nat → ClassId) (aX : Nat) (na tr sn : Nat → Nat) (hs : Int32) (hi sc : Nat) (ep fc : Int32) (ob : Nat) (σ : St) (ho : Ok σ) : RO l yX7_time wsX7_time { frames := 0, cells := 0, slots := 0, locals := 0 } (PB G cy [(aX, .inr (11, [.ref (na 0), .ref (tr 0), .ref (sn 0), .int hs, .ref hi, .ref sc, .int ep, .int fc, .ref ob])), (na 0, .inr (9, [.ref (na 1), .ref (na 2), .ref (na 3), .ref (na 4)])), (na 1, .inr (4, [.int (nI (nB σ)), .ref (na 5), .ref (na 6), .ref (na 7), .ref (na 8)])), (na 5, .inl (cy 2, 5, .inl (vB σ))), (na 6, .inl (cy 2, 5, .inl (hB σ))), (na 7, .inl (cy 3, 5, .inl (pB σ))), (na 8, .inl (cy 3, 5, .inl (mB σ))), (na 2, .inr (5, [.int (nI (nD σ)), .ref (na 9), .ref (na 10), .ref (na 11), .ref (na 12), .ref (na 13)])), (na 9, .inl (cy 2, 6, .inl (bD σ))), (na 10, .inl (cy 2, 6, .inl (lD σ))), (na 11, .inl (cy 2, 6, .inl (uD σ))), (na 12, .inl (cy 2, 6, .inl (qD σ))), (na 13, .inl (cy 3, 6, .inl (wD σ))), (na 3, .inr (6, [.int (nI (nE σ)), .ref (na 14), .ref (na 15), .ref (na 16)])), (na 14, .inl (cy 1, 10, .inl (kE σ))), (na 15, .inl (cy 2, 10, .inl (bE σ))), (na 16, .inl (cy 2, 10, .inl (lE σ))), (na 4, .inr (10, [.int (tT σ), .int (dT σ), .int (aT σ), .int (rT σ), .int (hT σ), .int (xT σ)]))]) [.ref aX] (some (.int (tT σ))) := by
  refine RO.ofW (cc := cX7_time) (maxL := 1) (ret := (some .int)) (by decide) rfl (Nat.le_of_ble_eq_true rfl) ?_
  intro p e s m below meth c S9 hr hlocks hPB ls hl
  obtain ⟨hx, hb, hml, hown, hts⟩ := id S9
  obtain ⟨hP, hK⟩ := hPB
  have hl : lv_has ls 1 [(0, .ref aX)] := hl
  have hi9 : ∀ w ∈ wsX50, w ∈ wsX7_time := by decide +kernel
  have hi10 : ∀ w ∈ wsX60, w ∈ wsX7_time := by decide +kernel
  have hi11 : ∀ w ∈ wsX70, w ∈ wsX7_time := by decide +kernel
  have hf12 := hts (.fieldLink RX7 12 "BathLeague" "now" "LBathLeague$State;") (by decide +kernel)
  have hf129 := hts (.fieldLink RX7 129 "BathLeague$State" "totals" "LBathLeague$Totals;") (by decide +kernel)
  have hf278 := hts (.fieldLink RX7 278 "BathLeague$Totals" "ticks" "I") (by decide +kernel)
  have hN0 := ho.1
  have hM0 := ho.2.1
  have hE0 := ho.2.2.1
  refine lv_aload_n hx hb dX7_time_0 rfl (lv_at hl 0 rfl) ?_
  refine va_get (D := G) (ci := 11) (v := .ref (na 0)) (C := RX7) (T := TX7) (N := 9) hx hb hts hi11 hown hK.1 hP 0 rfl rfl 0 (by decide) hf12 (fun _ h9 => h9) rfl dX7_time_1 ?_
  refine va_get (D := G) (ci := 9) (v := .ref (na 4)) (C := RX5) (T := TX5) (N := 4) hx hb hts hi9 hown hK.1 hP 1 rfl rfl 3 (by decide) hf129 (fun _ h9 => h9) rfl dX7_time_4 ?_
  refine va_get (D := G) (ci := 10) (v := .int (tT σ)) (C := RX6) (T := TX6) (N := 6) hx hb hts hi10 hown hK.1 hP 17 rfl rfl 0 (by decide) hf278 (fun _ h9 => h9) rfl dX7_time_7 ?_
  exact ro_iret hx hb hr hlocks rfl dX7_time_10

set_option maxRecDepth 100000 in
set_option maxHeartbeats 1000000 in
theorem c_X7_defectionTotal (l : Launch) (G : va_G) (cy : Nat → ClassId) (aX : Nat) (na tr sn : Nat → Nat) (hs : Int32) (hi sc : Nat) (ep fc : Int32) (ob : Nat) (σ : St) (ho : Ok σ) : RO l yX7_defectionTotal wsX7_defectionTotal { frames := 0, cells := 0, slots := 0, locals := 0 } (PB G cy [(aX, .inr (11, [.ref (na 0), .ref (tr 0), .ref (sn 0), .int hs, .ref hi, .ref sc, .int ep, .int fc, .ref ob])), (na 0, .inr (9, [.ref (na 1), .ref (na 2), .ref (na 3), .ref (na 4)])), (na 1, .inr (4, [.int (nI (nB σ)), .ref (na 5), .ref (na 6), .ref (na 7), .ref (na 8)])), (na 5, .inl (cy 2, 5, .inl (vB σ))), (na 6, .inl (cy 2, 5, .inl (hB σ))), (na 7, .inl (cy 3, 5, .inl (pB σ))), (na 8, .inl (cy 3, 5, .inl (mB σ))), (na 2, .inr (5, [.int (nI (nD σ)), .ref (na 9), .ref (na 10), .ref (na 11), .ref (na 12), .ref (na 13)])), (na 9, .inl (cy 2, 6, .inl (bD σ))), (na 10, .inl (cy 2, 6, .inl (lD σ))), (na 11, .inl (cy 2, 6, .inl (uD σ))), (na 12, .inl (cy 2, 6, .inl (qD σ))), (na 13, .inl (cy 3, 6, .inl (wD σ))), (na 3, .inr (6, [.int (nI (nE σ)), .ref (na 14), .ref (na 15), .ref (na 16)])), (na 14, .inl (cy 1, 10, .inl (kE σ))), (na 15, .inl (cy 2, 10, .inl (bE σ))), (na 16, .inl (cy 2, 10, .inl (lE σ))), (na 4, .inr (10, [.int (tT σ), .int (dT σ), .int (aT σ), .int (rT σ), .int (hT σ), .int (xT σ)]))]) [.ref aX] (some (.int (dT σ))) := by
  refine RO.ofW (cc := cX7_defectionTotal) (maxL := 1) (ret := (some .int)) (by decide) rfl (Nat.le_of_ble_eq_true rfl) ?_
  intro p e s m below meth c S9 hr hlocks hPB ls hl
  obtain ⟨hx, hb, hml, hown, hts⟩ := id S9
  obtain ⟨hP, hK⟩ := hPB
  have hl : lv_has ls 1 [(0, .ref aX)] := hl
  have hi9 : ∀ w ∈ wsX50, w ∈ wsX7_defectionTotal := by decide +kernel
  have hi10 : ∀ w ∈ wsX60, w ∈ wsX7_defectionTotal := by decide +kernel
  have hi11 : ∀ w ∈ wsX70, w ∈ wsX7_defectionTotal := by decide +kernel
  have hf12 := hts (.fieldLink RX7 12 "BathLeague" "now" "LBathLeague$State;") (by decide +kernel)
  have hf129 := hts (.fieldLink RX7 129 "BathLeague$State" "totals" "LBathLeague$Totals;") (by decide +kernel)
  have hf133 := hts (.fieldLink RX7 133 "BathLeague$Totals" "defections" "I") (by decide +kernel)
  have hN0 := ho.1
  have hM0 := ho.2.1
  have hE0 := ho.2.2.1
  refine lv_aload_n hx hb dX7_defectionTotal_0 rfl (lv_at hl 0 rfl) ?_
  refine va_get (D := G) (ci := 11) (v := .ref (na 0)) (C := RX7) (T := TX7) (N := 9) hx hb hts hi11 hown hK.1 hP 0 rfl rfl 0 (by decide) hf12 (fun _ h9 => h9) rfl dX7_defectionTotal_1 ?_
  refine va_get (D := G) (ci := 9) (v := .ref (na 4)) (C := RX5) (T := TX5) (N := 4) hx hb hts hi9 hown hK.1 hP 1 rfl rfl 3 (by decide) hf129 (fun _ h9 => h9) rfl dX7_defectionTotal_4 ?_
  refine va_get (D := G) (ci := 10) (v := .int (dT σ)) (C := RX6) (T := TX6) (N := 6) hx hb hts hi10 hown hK.1 hP 17 rfl rfl 1 (by decide) hf133 (fun _ h9 => h9) rfl dX7_defectionTotal_7 ?_
  exact ro_iret hx hb hr hlocks rfl dX7_defectionTotal_10

set_option maxRecDepth 100000 in
set_option maxHeartbeats 1000000 in
theorem c_X7_tappedLitres (l : Launch) (G : va_G) (cy : Nat → ClassId) (aX : Nat) (na tr sn : Nat → Nat) (hs : Int32) (hi sc : Nat) (ep fc : Int32) (ob : Nat) (σ : St) (ho : Ok σ) : RO l yX7_tappedLitres wsX7_tappedLitres { frames := 0, cells := 0, slots := 0, locals := 0 } (PB G cy [(aX, .inr (11, [.ref (na 0), .ref (tr 0), .ref (sn 0), .int hs, .ref hi, .ref sc, .int ep, .int fc, .ref ob])), (na 0, .inr (9, [.ref (na 1), .ref (na 2), .ref (na 3), .ref (na 4)])), (na 1, .inr (4, [.int (nI (nB σ)), .ref (na 5), .ref (na 6), .ref (na 7), .ref (na 8)])), (na 5, .inl (cy 2, 5, .inl (vB σ))), (na 6, .inl (cy 2, 5, .inl (hB σ))), (na 7, .inl (cy 3, 5, .inl (pB σ))), (na 8, .inl (cy 3, 5, .inl (mB σ))), (na 2, .inr (5, [.int (nI (nD σ)), .ref (na 9), .ref (na 10), .ref (na 11), .ref (na 12), .ref (na 13)])), (na 9, .inl (cy 2, 6, .inl (bD σ))), (na 10, .inl (cy 2, 6, .inl (lD σ))), (na 11, .inl (cy 2, 6, .inl (uD σ))), (na 12, .inl (cy 2, 6, .inl (qD σ))), (na 13, .inl (cy 3, 6, .inl (wD σ))), (na 3, .inr (6, [.int (nI (nE σ)), .ref (na 14), .ref (na 15), .ref (na 16)])), (na 14, .inl (cy 1, 10, .inl (kE σ))), (na 15, .inl (cy 2, 10, .inl (bE σ))), (na 16, .inl (cy 2, 10, .inl (lE σ))), (na 4, .inr (10, [.int (tT σ), .int (dT σ), .int (aT σ), .int (rT σ), .int (hT σ), .int (xT σ)]))]) [.ref aX] (some (.int (aT σ))) := by
  refine RO.ofW (cc := cX7_tappedLitres) (maxL := 1) (ret := (some .int)) (by decide) rfl (Nat.le_of_ble_eq_true rfl) ?_
  intro p e s m below meth c S9 hr hlocks hPB ls hl
  obtain ⟨hx, hb, hml, hown, hts⟩ := id S9
  obtain ⟨hP, hK⟩ := hPB
  have hl : lv_has ls 1 [(0, .ref aX)] := hl
  have hi9 : ∀ w ∈ wsX50, w ∈ wsX7_tappedLitres := by decide +kernel
  have hi10 : ∀ w ∈ wsX60, w ∈ wsX7_tappedLitres := by decide +kernel
  have hi11 : ∀ w ∈ wsX70, w ∈ wsX7_tappedLitres := by decide +kernel
  have hf12 := hts (.fieldLink RX7 12 "BathLeague" "now" "LBathLeague$State;") (by decide +kernel)
  have hf129 := hts (.fieldLink RX7 129 "BathLeague$State" "totals" "LBathLeague$Totals;") (by decide +kernel)
  have hf281 := hts (.fieldLink RX7 281 "BathLeague$Totals" "litresTapped" "I") (by decide +kernel)
  have hN0 := ho.1
  have hM0 := ho.2.1
  have hE0 := ho.2.2.1
  refine lv_aload_n hx hb dX7_tappedLitres_0 rfl (lv_at hl 0 rfl) ?_
  refine va_get (D := G) (ci := 11) (v := .ref (na 0)) (C := RX7) (T := TX7) (N := 9) hx hb hts hi11 hown hK.1 hP 0 rfl rfl 0 (by decide) hf12 (fun _ h9 => h9) rfl dX7_tappedLitres_1 ?_
  refine va_get (D := G) (ci := 9) (v := .ref (na 4)) (C := RX5) (T := TX5) (N := 4) hx hb hts hi9 hown hK.1 hP 1 rfl rfl 3 (by decide) hf129 (fun _ h9 => h9) rfl dX7_tappedLitres_4 ?_
  refine va_get (D := G) (ci := 10) (v := .int (aT σ)) (C := RX6) (T := TX6) (N := 6) hx hb hts hi10 hown hK.1 hP 17 rfl rfl 2 (by decide) hf281 (fun _ h9 => h9) rfl dX7_tappedLitres_7 ?_
  exact ro_iret hx hb hr hlocks rfl dX7_tappedLitres_10

set_option maxRecDepth 100000 in
set_option maxHeartbeats 1000000 in
theorem c_X7_drainedLitres (l : Launch) (G : va_G) (cy : Nat → ClassId) (aX : Nat) (na tr sn : Nat → Nat) (hs : Int32) (hi sc : Nat) (ep fc : Int32) (ob : Nat) (σ : St) (ho : Ok σ) : RO l yX7_drainedLitres wsX7_drainedLitres { frames := 0, cells := 0, slots := 0, locals := 0 } (PB G cy [(aX, .inr (11, [.ref (na 0), .ref (tr 0), .ref (sn 0), .int hs, .ref hi, .ref sc, .int ep, .int fc, .ref ob])), (na 0, .inr (9, [.ref (na 1), .ref (na 2), .ref (na 3), .ref (na 4)])), (na 1, .inr (4, [.int (nI (nB σ)), .ref (na 5), .ref (na 6), .ref (na 7), .ref (na 8)])), (na 5, .inl (cy 2, 5, .inl (vB σ))), (na 6, .inl (cy 2, 5, .inl (hB σ))), (na 7, .inl (cy 3, 5, .inl (pB σ))), (na 8, .inl (cy 3, 5, .inl (mB σ))), (na 2, .inr (5, [.int (nI (nD σ)), .ref (na 9), .ref (na 10), .ref (na 11), .ref (na 12), .ref (na 13)])), (na 9, .inl (cy 2, 6, .inl (bD σ))), (na 10, .inl (cy 2, 6, .inl (lD σ))), (na 11, .inl (cy 2, 6, .inl (uD σ))), (na 12, .inl (cy 2, 6, .inl (qD σ))), (na 13, .inl (cy 3, 6, .inl (wD σ))), (na 3, .inr (6, [.int (nI (nE σ)), .ref (na 14), .ref (na 15), .ref (na 16)])), (na 14, .inl (cy 1, 10, .inl (kE σ))), (na 15, .inl (cy 2, 10, .inl (bE σ))), (na 16, .inl (cy 2, 10, .inl (lE σ))), (na 4, .inr (10, [.int (tT σ), .int (dT σ), .int (aT σ), .int (rT σ), .int (hT σ), .int (xT σ)]))]) [.ref aX] (some (.int (rT σ))) := by
  refine RO.ofW (cc := cX7_drainedLitres) (maxL := 1) (ret := (some .int)) (by decide) rfl (Nat.le_of_ble_eq_true rfl) ?_
  intro p e s m below meth c S9 hr hlocks hPB ls hl
  obtain ⟨hx, hb, hml, hown, hts⟩ := id S9
  obtain ⟨hP, hK⟩ := hPB
  have hl : lv_has ls 1 [(0, .ref aX)] := hl
  have hi9 : ∀ w ∈ wsX50, w ∈ wsX7_drainedLitres := by decide +kernel
  have hi10 : ∀ w ∈ wsX60, w ∈ wsX7_drainedLitres := by decide +kernel
  have hi11 : ∀ w ∈ wsX70, w ∈ wsX7_drainedLitres := by decide +kernel
  have hf12 := hts (.fieldLink RX7 12 "BathLeague" "now" "LBathLeague$State;") (by decide +kernel)
  have hf129 := hts (.fieldLink RX7 129 "BathLeague$State" "totals" "LBathLeague$Totals;") (by decide +kernel)
  have hf284 := hts (.fieldLink RX7 284 "BathLeague$Totals" "litresDrained" "I") (by decide +kernel)
  have hN0 := ho.1
  have hM0 := ho.2.1
  have hE0 := ho.2.2.1
  refine lv_aload_n hx hb dX7_drainedLitres_0 rfl (lv_at hl 0 rfl) ?_
  refine va_get (D := G) (ci := 11) (v := .ref (na 0)) (C := RX7) (T := TX7) (N := 9) hx hb hts hi11 hown hK.1 hP 0 rfl rfl 0 (by decide) hf12 (fun _ h9 => h9) rfl dX7_drainedLitres_1 ?_
  refine va_get (D := G) (ci := 9) (v := .ref (na 4)) (C := RX5) (T := TX5) (N := 4) hx hb hts hi9 hown hK.1 hP 1 rfl rfl 3 (by decide) hf129 (fun _ h9 => h9) rfl dX7_drainedLitres_4 ?_
  refine va_get (D := G) (ci := 10) (v := .int (rT σ)) (C := RX6) (T := TX6) (N := 6) hx hb hts hi10 hown hK.1 hP 17 rfl rfl 3 (by decide) hf284 (fun _ h9 => h9) rfl dX7_drainedLitres_7 ?_
  exact ro_iret hx hb hr hlocks rfl dX7_drainedLitres_10

set_option maxRecDepth 100000 in
set_option maxHeartbeats 1000000 in
theorem c_X7_tappedHeat (l : Launch) (G : va_G) (cy : Nat → ClassId) (aX : Nat) (na tr sn : Nat → Nat) (hs : Int32) (hi sc : Nat) (ep fc : Int32) (ob : Nat) (σ : St) (ho : Ok σ) : RO l yX7_tappedHeat wsX7_tappedHeat { frames := 0, cells := 0, slots := 0, locals := 0 } (PB G cy [(aX, .inr (11, [.ref (na 0), .ref (tr 0), .ref (sn 0), .int hs, .ref hi, .ref sc, .int ep, .int fc, .ref ob])), (na 0, .inr (9, [.ref (na 1), .ref (na 2), .ref (na 3), .ref (na 4)])), (na 1, .inr (4, [.int (nI (nB σ)), .ref (na 5), .ref (na 6), .ref (na 7), .ref (na 8)])), (na 5, .inl (cy 2, 5, .inl (vB σ))), (na 6, .inl (cy 2, 5, .inl (hB σ))), (na 7, .inl (cy 3, 5, .inl (pB σ))), (na 8, .inl (cy 3, 5, .inl (mB σ))), (na 2, .inr (5, [.int (nI (nD σ)), .ref (na 9), .ref (na 10), .ref (na 11), .ref (na 12), .ref (na 13)])), (na 9, .inl (cy 2, 6, .inl (bD σ))), (na 10, .inl (cy 2, 6, .inl (lD σ))), (na 11, .inl (cy 2, 6, .inl (uD σ))), (na 12, .inl (cy 2, 6, .inl (qD σ))), (na 13, .inl (cy 3, 6, .inl (wD σ))), (na 3, .inr (6, [.int (nI (nE σ)), .ref (na 14), .ref (na 15), .ref (na 16)])), (na 14, .inl (cy 1, 10, .inl (kE σ))), (na 15, .inl (cy 2, 10, .inl (bE σ))), (na 16, .inl (cy 2, 10, .inl (lE σ))), (na 4, .inr (10, [.int (tT σ), .int (dT σ), .int (aT σ), .int (rT σ), .int (hT σ), .int (xT σ)]))]) [.ref aX] (some (.int (hT σ))) := by
  refine RO.ofW (cc := cX7_tappedHeat) (maxL := 1) (ret := (some .int)) (by decide) rfl (Nat.le_of_ble_eq_true rfl) ?_
  intro p e s m below meth c S9 hr hlocks hPB ls hl
  obtain ⟨hx, hb, hml, hown, hts⟩ := id S9
  obtain ⟨hP, hK⟩ := hPB
  have hl : lv_has ls 1 [(0, .ref aX)] := hl
  have hi9 : ∀ w ∈ wsX50, w ∈ wsX7_tappedHeat := by decide +kernel
  have hi10 : ∀ w ∈ wsX60, w ∈ wsX7_tappedHeat := by decide +kernel
  have hi11 : ∀ w ∈ wsX70, w ∈ wsX7_tappedHeat := by decide +kernel
  have hf12 := hts (.fieldLink RX7 12 "BathLeague" "now" "LBathLeague$State;") (by decide +kernel)
  have hf129 := hts (.fieldLink RX7 129 "BathLeague$State" "totals" "LBathLeague$Totals;") (by decide +kernel)
  have hf287 := hts (.fieldLink RX7 287 "BathLeague$Totals" "heatTapped" "I") (by decide +kernel)
  have hN0 := ho.1
  have hM0 := ho.2.1
  have hE0 := ho.2.2.1
  refine lv_aload_n hx hb dX7_tappedHeat_0 rfl (lv_at hl 0 rfl) ?_
  refine va_get (D := G) (ci := 11) (v := .ref (na 0)) (C := RX7) (T := TX7) (N := 9) hx hb hts hi11 hown hK.1 hP 0 rfl rfl 0 (by decide) hf12 (fun _ h9 => h9) rfl dX7_tappedHeat_1 ?_
  refine va_get (D := G) (ci := 9) (v := .ref (na 4)) (C := RX5) (T := TX5) (N := 4) hx hb hts hi9 hown hK.1 hP 1 rfl rfl 3 (by decide) hf129 (fun _ h9 => h9) rfl dX7_tappedHeat_4 ?_
  refine va_get (D := G) (ci := 10) (v := .int (hT σ)) (C := RX6) (T := TX6) (N := 6) hx hb hts hi10 hown hK.1 hP 17 rfl rfl 4 (by decide) hf287 (fun _ h9 => h9) rfl dX7_tappedHeat_7 ?_
  exact ro_iret hx hb hr hlocks rfl dX7_tappedHeat_10

set_option maxRecDepth 100000 in
set_option maxHeartbeats 1000000 in
theorem c_X7_lostHeat (l : Launch) (G : va_G) (cy : Nat → ClassId) (aX : Nat) (na tr sn : Nat → Nat) (hs : Int32) (hi sc : Nat) (ep fc : Int32) (ob : Nat) (σ : St) (ho : Ok σ) : RO l yX7_lostHeat wsX7_lostHeat { frames := 0, cells := 0, slots := 0, locals := 0 } (PB G cy [(aX, .inr (11, [.ref (na 0), .ref (tr 0), .ref (sn 0), .int hs, .ref hi, .ref sc, .int ep, .int fc, .ref ob])), (na 0, .inr (9, [.ref (na 1), .ref (na 2), .ref (na 3), .ref (na 4)])), (na 1, .inr (4, [.int (nI (nB σ)), .ref (na 5), .ref (na 6), .ref (na 7), .ref (na 8)])), (na 5, .inl (cy 2, 5, .inl (vB σ))), (na 6, .inl (cy 2, 5, .inl (hB σ))), (na 7, .inl (cy 3, 5, .inl (pB σ))), (na 8, .inl (cy 3, 5, .inl (mB σ))), (na 2, .inr (5, [.int (nI (nD σ)), .ref (na 9), .ref (na 10), .ref (na 11), .ref (na 12), .ref (na 13)])), (na 9, .inl (cy 2, 6, .inl (bD σ))), (na 10, .inl (cy 2, 6, .inl (lD σ))), (na 11, .inl (cy 2, 6, .inl (uD σ))), (na 12, .inl (cy 2, 6, .inl (qD σ))), (na 13, .inl (cy 3, 6, .inl (wD σ))), (na 3, .inr (6, [.int (nI (nE σ)), .ref (na 14), .ref (na 15), .ref (na 16)])), (na 14, .inl (cy 1, 10, .inl (kE σ))), (na 15, .inl (cy 2, 10, .inl (bE σ))), (na 16, .inl (cy 2, 10, .inl (lE σ))), (na 4, .inr (10, [.int (tT σ), .int (dT σ), .int (aT σ), .int (rT σ), .int (hT σ), .int (xT σ)]))]) [.ref aX] (some (.int (xT σ))) := by
  refine RO.ofW (cc := cX7_lostHeat) (maxL := 1) (ret := (some .int)) (by decide) rfl (Nat.le_of_ble_eq_true rfl) ?_
  intro p e s m below meth c S9 hr hlocks hPB ls hl
  obtain ⟨hx, hb, hml, hown, hts⟩ := id S9
  obtain ⟨hP, hK⟩ := hPB
  have hl : lv_has ls 1 [(0, .ref aX)] := hl
  have hi9 : ∀ w ∈ wsX50, w ∈ wsX7_lostHeat := by decide +kernel
  have hi10 : ∀ w ∈ wsX60, w ∈ wsX7_lostHeat := by decide +kernel
  have hi11 : ∀ w ∈ wsX70, w ∈ wsX7_lostHeat := by decide +kernel
  have hf12 := hts (.fieldLink RX7 12 "BathLeague" "now" "LBathLeague$State;") (by decide +kernel)
  have hf129 := hts (.fieldLink RX7 129 "BathLeague$State" "totals" "LBathLeague$Totals;") (by decide +kernel)
  have hf290 := hts (.fieldLink RX7 290 "BathLeague$Totals" "heatLost" "I") (by decide +kernel)
  have hN0 := ho.1
  have hM0 := ho.2.1
  have hE0 := ho.2.2.1
  refine lv_aload_n hx hb dX7_lostHeat_0 rfl (lv_at hl 0 rfl) ?_
  refine va_get (D := G) (ci := 11) (v := .ref (na 0)) (C := RX7) (T := TX7) (N := 9) hx hb hts hi11 hown hK.1 hP 0 rfl rfl 0 (by decide) hf12 (fun _ h9 => h9) rfl dX7_lostHeat_1 ?_
  refine va_get (D := G) (ci := 9) (v := .ref (na 4)) (C := RX5) (T := TX5) (N := 4) hx hb hts hi9 hown hK.1 hP 1 rfl rfl 3 (by decide) hf129 (fun _ h9 => h9) rfl dX7_lostHeat_4 ?_
  refine va_get (D := G) (ci := 10) (v := .int (xT σ)) (C := RX6) (T := TX6) (N := 6) hx hb hts hi10 hown hK.1 hP 17 rfl rfl 5 (by decide) hf290 (fun _ h9 => h9) rfl dX7_lostHeat_7 ?_
  exact ro_iret hx hb hr hlocks rfl dX7_lostHeat_10

set_option maxRecDepth 100000 in
set_option maxHeartbeats 1000000 in
theorem c_X7_volume (l : Launch) (G : va_G) (cy : Nat → ClassId) (aX : Nat) (na tr sn : Nat → Nat) (hs : Int32) (hi sc : Nat) (ep fc : Int32) (ob : Nat) (σ : St) (j : Nat) (ho : Ok σ) (hj : j < nB σ) : RO l yX7_volume wsX7_volume { frames := 2, cells := 0, slots := 0, locals := 42 } (PB G cy [(aX, .inr (11, [.ref (na 0), .ref (tr 0), .ref (sn 0), .int hs, .ref hi, .ref sc, .int ep, .int fc, .ref ob])), (na 0, .inr (9, [.ref (na 1), .ref (na 2), .ref (na 3), .ref (na 4)])), (na 1, .inr (4, [.int (nI (nB σ)), .ref (na 5), .ref (na 6), .ref (na 7), .ref (na 8)])), (na 5, .inl (cy 2, 5, .inl (vB σ))), (na 6, .inl (cy 2, 5, .inl (hB σ))), (na 7, .inl (cy 3, 5, .inl (pB σ))), (na 8, .inl (cy 3, 5, .inl (mB σ))), (na 2, .inr (5, [.int (nI (nD σ)), .ref (na 9), .ref (na 10), .ref (na 11), .ref (na 12), .ref (na 13)])), (na 9, .inl (cy 2, 6, .inl (bD σ))), (na 10, .inl (cy 2, 6, .inl (lD σ))), (na 11, .inl (cy 2, 6, .inl (uD σ))), (na 12, .inl (cy 2, 6, .inl (qD σ))), (na 13, .inl (cy 3, 6, .inl (wD σ))), (na 3, .inr (6, [.int (nI (nE σ)), .ref (na 14), .ref (na 15), .ref (na 16)])), (na 14, .inl (cy 1, 10, .inl (kE σ))), (na 15, .inl (cy 2, 10, .inl (bE σ))), (na 16, .inl (cy 2, 10, .inl (lE σ))), (na 4, .inr (10, [.int (tT σ), .int (dT σ), .int (aT σ), .int (rT σ), .int (hT σ), .int (xT σ)]))]) [.ref aX, .int (nI j)] (some (.int (vB σ j))) := by
  refine RO.ofW (cc := cX7_volume) (maxL := 2) (ret := (some .int)) (by decide) rfl (Nat.le_of_ble_eq_true rfl) ?_
  intro p e s m below meth c S9 hr hlocks hPB ls hl
  obtain ⟨hx, hb, hml, hown, hts⟩ := id S9
  obtain ⟨hP, hK⟩ := hPB
  have hl : lv_has ls 2 [(0, .ref aX), (1, .int (nI j))] := hl
  have hi4 : ∀ w ∈ wsX00, w ∈ wsX7_volume := by decide +kernel
  have hi9 : ∀ w ∈ wsX50, w ∈ wsX7_volume := by decide +kernel
  have hi11 : ∀ w ∈ wsX70, w ∈ wsX7_volume := by decide +kernel
  have hf12 := hts (.fieldLink RX7 12 "BathLeague" "now" "LBathLeague$State;") (by decide +kernel)
  have hf77 := hts (.fieldLink RX7 77 "BathLeague$State" "baths" "LBathLeague$Baths;") (by decide +kernel)
  have hf81 := hts (.fieldLink RX7 81 "BathLeague$Baths" "volume" "[I") (by decide +kernel)
  have hN0 := ho.1
  have hM0 := ho.2.1
  have hE0 := ho.2.2.1
  refine lv_aload_n hx hb dX7_volume_0 rfl (lv_at hl 0 rfl) ?_
  refine lv_iload_n hx hb dX7_volume_1 rfl (lv_at hl 1 rfl) ?_
  refine c_roVv S9 (c_X7_requireBath l G cy aX na tr sn hs hi sc ep fc ob σ j ho hj) (cwV 1 hts gX7_volume_X7_requireBath rfl rfl rfl (by decide +kernel) ⟨Nat.le_of_ble_eq_true rfl, Nat.le_of_ble_eq_true rfl⟩) PB.blind (va_recv hK.1 hP (ci := 11) (q0 := 0) rfl rfl) (PB.at hK (m_Ppart hP [0, 1, 2, 3, 4, 5, 6, 7, 8, 9, 10, 11, 12, 13, 14, 15, 16, 17] rfl)) rfl hl.1 rfl (Nat.le_of_ble_eq_true rfl) ⟨Nat.zero_le _, Nat.zero_le _⟩ dX7_volume_2 ?_
  refine lv_aload_n hx hb dX7_volume_5 rfl (lv_at hl 0 rfl) ?_
  refine va_get (D := G) (ci := 11) (v := .ref (na 0)) (C := RX7) (T := TX7) (N := 9) hx hb hts hi11 hown hK.1 hP 0 rfl rfl 0 (by decide) hf12 (fun _ h9 => h9) rfl dX7_volume_6 ?_
  refine va_get (D := G) (ci := 9) (v := .ref (na 1)) (C := RX5) (T := TX5) (N := 4) hx hb hts hi9 hown hK.1 hP 1 rfl rfl 0 (by decide) hf77 (fun _ h9 => h9) rfl dX7_volume_9 ?_
  refine va_get (D := G) (ci := 4) (v := .ref (na 5)) (C := RX0) (T := TX0) (N := 5) hx hb hts hi4 hown hK.1 hP 2 rfl rfl 1 (by decide) hf81 (fun _ h9 => h9) rfl dX7_volume_12 ?_
  refine lv_iload_n hx hb dX7_volume_15 rfl (lv_at hl 1 rfl) ?_
  refine m_iald hx hb hK hP 3 (k := j) rfl rfl (by omega) (Nat.le_of_ble_eq_true rfl) dX7_volume_16 ?_
  exact ro_iret hx hb hr hlocks rfl dX7_volume_17

set_option maxRecDepth 100000 in
set_option maxHeartbeats 1000000 in
theorem c_X7_heat (l : Launch) (G : va_G) (cy : Nat → ClassId) (aX : Nat) (na tr sn : Nat → Nat) (hs : Int32) (hi sc : Nat) (ep fc : Int32) (ob : Nat) (σ : St) (j : Nat) (ho : Ok σ) (hj : j < nB σ) : RO l yX7_heat wsX7_heat { frames := 2, cells := 0, slots := 0, locals := 42 } (PB G cy [(aX, .inr (11, [.ref (na 0), .ref (tr 0), .ref (sn 0), .int hs, .ref hi, .ref sc, .int ep, .int fc, .ref ob])), (na 0, .inr (9, [.ref (na 1), .ref (na 2), .ref (na 3), .ref (na 4)])), (na 1, .inr (4, [.int (nI (nB σ)), .ref (na 5), .ref (na 6), .ref (na 7), .ref (na 8)])), (na 5, .inl (cy 2, 5, .inl (vB σ))), (na 6, .inl (cy 2, 5, .inl (hB σ))), (na 7, .inl (cy 3, 5, .inl (pB σ))), (na 8, .inl (cy 3, 5, .inl (mB σ))), (na 2, .inr (5, [.int (nI (nD σ)), .ref (na 9), .ref (na 10), .ref (na 11), .ref (na 12), .ref (na 13)])), (na 9, .inl (cy 2, 6, .inl (bD σ))), (na 10, .inl (cy 2, 6, .inl (lD σ))), (na 11, .inl (cy 2, 6, .inl (uD σ))), (na 12, .inl (cy 2, 6, .inl (qD σ))), (na 13, .inl (cy 3, 6, .inl (wD σ))), (na 3, .inr (6, [.int (nI (nE σ)), .ref (na 14), .ref (na 15), .ref (na 16)])), (na 14, .inl (cy 1, 10, .inl (kE σ))), (na 15, .inl (cy 2, 10, .inl (bE σ))), (na 16, .inl (cy 2, 10, .inl (lE σ))), (na 4, .inr (10, [.int (tT σ), .int (dT σ), .int (aT σ), .int (rT σ), .int (hT σ), .int (xT σ)]))]) [.ref aX, .int (nI j)] (some (.int (hB σ j))) := by
  refine RO.ofW (cc := cX7_heat) (maxL := 2) (ret := (some .int)) (by decide) rfl (Nat.le_of_ble_eq_true rfl) ?_
  intro p e s m below meth c S9 hr hlocks hPB ls hl
  obtain ⟨hx, hb, hml, hown, hts⟩ := id S9
  obtain ⟨hP, hK⟩ := hPB
  have hl : lv_has ls 2 [(0, .ref aX), (1, .int (nI j))] := hl
  have hi4 : ∀ w ∈ wsX00, w ∈ wsX7_heat := by decide +kernel
  have hi9 : ∀ w ∈ wsX50, w ∈ wsX7_heat := by decide +kernel
  have hi11 : ∀ w ∈ wsX70, w ∈ wsX7_heat := by decide +kernel
  have hf12 := hts (.fieldLink RX7 12 "BathLeague" "now" "LBathLeague$State;") (by decide +kernel)
  have hf77 := hts (.fieldLink RX7 77 "BathLeague$State" "baths" "LBathLeague$Baths;") (by decide +kernel)
  have hf147 := hts (.fieldLink RX7 147 "BathLeague$Baths" "heat" "[I") (by decide +kernel)
  have hN0 := ho.1
  have hM0 := ho.2.1
  have hE0 := ho.2.2.1
  refine lv_aload_n hx hb dX7_heat_0 rfl (lv_at hl 0 rfl) ?_
  refine lv_iload_n hx hb dX7_heat_1 rfl (lv_at hl 1 rfl) ?_
  refine c_roVv S9 (c_X7_requireBath l G cy aX na tr sn hs hi sc ep fc ob σ j ho hj) (cwV 1 hts gX7_heat_X7_requireBath rfl rfl rfl (by decide +kernel) ⟨Nat.le_of_ble_eq_true rfl, Nat.le_of_ble_eq_true rfl⟩) PB.blind (va_recv hK.1 hP (ci := 11) (q0 := 0) rfl rfl) (PB.at hK (m_Ppart hP [0, 1, 2, 3, 4, 5, 6, 7, 8, 9, 10, 11, 12, 13, 14, 15, 16, 17] rfl)) rfl hl.1 rfl (Nat.le_of_ble_eq_true rfl) ⟨Nat.zero_le _, Nat.zero_le _⟩ dX7_heat_2 ?_
  refine lv_aload_n hx hb dX7_heat_5 rfl (lv_at hl 0 rfl) ?_
  refine va_get (D := G) (ci := 11) (v := .ref (na 0)) (C := RX7) (T := TX7) (N := 9) hx hb hts hi11 hown hK.1 hP 0 rfl rfl 0 (by decide) hf12 (fun _ h9 => h9) rfl dX7_heat_6 ?_
  refine va_get (D := G) (ci := 9) (v := .ref (na 1)) (C := RX5) (T := TX5) (N := 4) hx hb hts hi9 hown hK.1 hP 1 rfl rfl 0 (by decide) hf77 (fun _ h9 => h9) rfl dX7_heat_9 ?_
  refine va_get (D := G) (ci := 4) (v := .ref (na 6)) (C := RX0) (T := TX0) (N := 5) hx hb hts hi4 hown hK.1 hP 2 rfl rfl 2 (by decide) hf147 (fun _ h9 => h9) rfl dX7_heat_12 ?_
  refine lv_iload_n hx hb dX7_heat_15 rfl (lv_at hl 1 rfl) ?_
  refine m_iald hx hb hK hP 4 (k := j) rfl rfl (by omega) (Nat.le_of_ble_eq_true rfl) dX7_heat_16 ?_
  exact ro_iret hx hb hr hlocks rfl dX7_heat_17

set_option maxRecDepth 100000 in
set_option maxHeartbeats 1000000 in
theorem c_X7_isPlugged (l : Launch) (G : va_G) (cy : Nat → ClassId) (aX : Nat) (na tr sn : Nat → Nat) (hs : Int32) (hi sc : Nat) (ep fc : Int32) (ob : Nat) (σ : St) (j : Nat) (ho : Ok σ) (hj : j < nB σ) : RO l yX7_isPlugged wsX7_isPlugged { frames := 2, cells := 0, slots := 0, locals := 42 } (PB G cy [(aX, .inr (11, [.ref (na 0), .ref (tr 0), .ref (sn 0), .int hs, .ref hi, .ref sc, .int ep, .int fc, .ref ob])), (na 0, .inr (9, [.ref (na 1), .ref (na 2), .ref (na 3), .ref (na 4)])), (na 1, .inr (4, [.int (nI (nB σ)), .ref (na 5), .ref (na 6), .ref (na 7), .ref (na 8)])), (na 5, .inl (cy 2, 5, .inl (vB σ))), (na 6, .inl (cy 2, 5, .inl (hB σ))), (na 7, .inl (cy 3, 5, .inl (pB σ))), (na 8, .inl (cy 3, 5, .inl (mB σ))), (na 2, .inr (5, [.int (nI (nD σ)), .ref (na 9), .ref (na 10), .ref (na 11), .ref (na 12), .ref (na 13)])), (na 9, .inl (cy 2, 6, .inl (bD σ))), (na 10, .inl (cy 2, 6, .inl (lD σ))), (na 11, .inl (cy 2, 6, .inl (uD σ))), (na 12, .inl (cy 2, 6, .inl (qD σ))), (na 13, .inl (cy 3, 6, .inl (wD σ))), (na 3, .inr (6, [.int (nI (nE σ)), .ref (na 14), .ref (na 15), .ref (na 16)])), (na 14, .inl (cy 1, 10, .inl (kE σ))), (na 15, .inl (cy 2, 10, .inl (bE σ))), (na 16, .inl (cy 2, 10, .inl (lE σ))), (na 4, .inr (10, [.int (tT σ), .int (dT σ), .int (aT σ), .int (rT σ), .int (hT σ), .int (xT σ)]))]) [.ref aX, .int (nI j)] (some (.int (pB σ j))) := by
  refine RO.ofW (cc := cX7_isPlugged) (maxL := 2) (ret := (some .boolean)) (by decide) rfl (Nat.le_of_ble_eq_true rfl) ?_
  intro p e s m below meth c S9 hr hlocks hPB ls hl
  obtain ⟨hx, hb, hml, hown, hts⟩ := id S9
  obtain ⟨hP, hK⟩ := hPB
  have hl : lv_has ls 2 [(0, .ref aX), (1, .int (nI j))] := hl
  have hi4 : ∀ w ∈ wsX00, w ∈ wsX7_isPlugged := by decide +kernel
  have hi9 : ∀ w ∈ wsX50, w ∈ wsX7_isPlugged := by decide +kernel
  have hi11 : ∀ w ∈ wsX70, w ∈ wsX7_isPlugged := by decide +kernel
  have hf12 := hts (.fieldLink RX7 12 "BathLeague" "now" "LBathLeague$State;") (by decide +kernel)
  have hf77 := hts (.fieldLink RX7 77 "BathLeague$State" "baths" "LBathLeague$Baths;") (by decide +kernel)
  have hf91 := hts (.fieldLink RX7 91 "BathLeague$Baths" "plugged" "[Z") (by decide +kernel)
  have hN0 := ho.1
  have hM0 := ho.2.1
  have hE0 := ho.2.2.1
  refine lv_aload_n hx hb dX7_isPlugged_0 rfl (lv_at hl 0 rfl) ?_
  refine lv_iload_n hx hb dX7_isPlugged_1 rfl (lv_at hl 1 rfl) ?_
  refine c_roVv S9 (c_X7_requireBath l G cy aX na tr sn hs hi sc ep fc ob σ j ho hj) (cwV 1 hts gX7_isPlugged_X7_requireBath rfl rfl rfl (by decide +kernel) ⟨Nat.le_of_ble_eq_true rfl, Nat.le_of_ble_eq_true rfl⟩) PB.blind (va_recv hK.1 hP (ci := 11) (q0 := 0) rfl rfl) (PB.at hK (m_Ppart hP [0, 1, 2, 3, 4, 5, 6, 7, 8, 9, 10, 11, 12, 13, 14, 15, 16, 17] rfl)) rfl hl.1 rfl (Nat.le_of_ble_eq_true rfl) ⟨Nat.zero_le _, Nat.zero_le _⟩ dX7_isPlugged_2 ?_
  refine lv_aload_n hx hb dX7_isPlugged_5 rfl (lv_at hl 0 rfl) ?_
  refine va_get (D := G) (ci := 11) (v := .ref (na 0)) (C := RX7) (T := TX7) (N := 9) hx hb hts hi11 hown hK.1 hP 0 rfl rfl 0 (by decide) hf12 (fun _ h9 => h9) rfl dX7_isPlugged_6 ?_
  refine va_get (D := G) (ci := 9) (v := .ref (na 1)) (C := RX5) (T := TX5) (N := 4) hx hb hts hi9 hown hK.1 hP 1 rfl rfl 0 (by decide) hf77 (fun _ h9 => h9) rfl dX7_isPlugged_9 ?_
  refine va_get (D := G) (ci := 4) (v := .ref (na 7)) (C := RX0) (T := TX0) (N := 5) hx hb hts hi4 hown hK.1 hP 2 rfl rfl 3 (by decide) hf91 (fun _ h9 => h9) rfl dX7_isPlugged_12 ?_
  refine lv_iload_n hx hb dX7_isPlugged_15 rfl (lv_at hl 1 rfl) ?_
  refine m_zald hx hb hK hP 5 (k := j) rfl rfl (by omega) (Nat.le_of_ble_eq_true rfl) dX7_isPlugged_16 ?_
  exact ro_zret hx hb hr hlocks (congrArg Value.int (ho.2.2.2.2.1 j (by omega))) rfl dX7_isPlugged_17

set_option maxRecDepth 100000 in
set_option maxHeartbeats 1000000 in
theorem c_X7_isMember (l : Launch) (G : va_G) (cy : Nat → ClassId) (aX : Nat) (na tr sn : Nat → Nat) (hs : Int32) (hi sc : Nat) (ep fc : Int32) (ob : Nat) (σ : St) (j : Nat) (ho : Ok σ) (hj : j < nB σ) : RO l yX7_isMember wsX7_isMember { frames := 2, cells := 0, slots := 0, locals := 42 } (PB G cy [(aX, .inr (11, [.ref (na 0), .ref (tr 0), .ref (sn 0), .int hs, .ref hi, .ref sc, .int ep, .int fc, .ref ob])), (na 0, .inr (9, [.ref (na 1), .ref (na 2), .ref (na 3), .ref (na 4)])), (na 1, .inr (4, [.int (nI (nB σ)), .ref (na 5), .ref (na 6), .ref (na 7), .ref (na 8)])), (na 5, .inl (cy 2, 5, .inl (vB σ))), (na 6, .inl (cy 2, 5, .inl (hB σ))), (na 7, .inl (cy 3, 5, .inl (pB σ))), (na 8, .inl (cy 3, 5, .inl (mB σ))), (na 2, .inr (5, [.int (nI (nD σ)), .ref (na 9), .ref (na 10), .ref (na 11), .ref (na 12), .ref (na 13)])), (na 9, .inl (cy 2, 6, .inl (bD σ))), (na 10, .inl (cy 2, 6, .inl (lD σ))), (na 11, .inl (cy 2, 6, .inl (uD σ))), (na 12, .inl (cy 2, 6, .inl (qD σ))), (na 13, .inl (cy 3, 6, .inl (wD σ))), (na 3, .inr (6, [.int (nI (nE σ)), .ref (na 14), .ref (na 15), .ref (na 16)])), (na 14, .inl (cy 1, 10, .inl (kE σ))), (na 15, .inl (cy 2, 10, .inl (bE σ))), (na 16, .inl (cy 2, 10, .inl (lE σ))), (na 4, .inr (10, [.int (tT σ), .int (dT σ), .int (aT σ), .int (rT σ), .int (hT σ), .int (xT σ)]))]) [.ref aX, .int (nI j)] (some (.int (mB σ j))) := by
  refine RO.ofW (cc := cX7_isMember) (maxL := 2) (ret := (some .boolean)) (by decide) rfl (Nat.le_of_ble_eq_true rfl) ?_
  intro p e s m below meth c S9 hr hlocks hPB ls hl
  obtain ⟨hx, hb, hml, hown, hts⟩ := id S9
  obtain ⟨hP, hK⟩ := hPB
  have hl : lv_has ls 2 [(0, .ref aX), (1, .int (nI j))] := hl
  have hi4 : ∀ w ∈ wsX00, w ∈ wsX7_isMember := by decide +kernel
  have hi9 : ∀ w ∈ wsX50, w ∈ wsX7_isMember := by decide +kernel
  have hi11 : ∀ w ∈ wsX70, w ∈ wsX7_isMember := by decide +kernel
  have hf12 := hts (.fieldLink RX7 12 "BathLeague" "now" "LBathLeague$State;") (by decide +kernel)
  have hf77 := hts (.fieldLink RX7 77 "BathLeague$State" "baths" "LBathLeague$Baths;") (by decide +kernel)
  have hf180 := hts (.fieldLink RX7 180 "BathLeague$Baths" "member" "[Z") (by decide +kernel)
  have hN0 := ho.1
  have hM0 := ho.2.1
  have hE0 := ho.2.2.1
  refine lv_aload_n hx hb dX7_isMember_0 rfl (lv_at hl 0 rfl) ?_
  refine lv_iload_n hx hb dX7_isMember_1 rfl (lv_at hl 1 rfl) ?_
  refine c_roVv S9 (c_X7_requireBath l G cy aX na tr sn hs hi sc ep fc ob σ j ho hj) (cwV 1 hts gX7_isMember_X7_requireBath rfl rfl rfl (by decide +kernel) ⟨Nat.le_of_ble_eq_true rfl, Nat.le_of_ble_eq_true rfl⟩) PB.blind (va_recv hK.1 hP (ci := 11) (q0 := 0) rfl rfl) (PB.at hK (m_Ppart hP [0, 1, 2, 3, 4, 5, 6, 7, 8, 9, 10, 11, 12, 13, 14, 15, 16, 17] rfl)) rfl hl.1 rfl (Nat.le_of_ble_eq_true rfl) ⟨Nat.zero_le _, Nat.zero_le _⟩ dX7_isMember_2 ?_
  refine lv_aload_n hx hb dX7_isMember_5 rfl (lv_at hl 0 rfl) ?_
  refine va_get (D := G) (ci := 11) (v := .ref (na 0)) (C := RX7) (T := TX7) (N := 9) hx hb hts hi11 hown hK.1 hP 0 rfl rfl 0 (by decide) hf12 (fun _ h9 => h9) rfl dX7_isMember_6 ?_
  refine va_get (D := G) (ci := 9) (v := .ref (na 1)) (C := RX5) (T := TX5) (N := 4) hx hb hts hi9 hown hK.1 hP 1 rfl rfl 0 (by decide) hf77 (fun _ h9 => h9) rfl dX7_isMember_9 ?_
  refine va_get (D := G) (ci := 4) (v := .ref (na 8)) (C := RX0) (T := TX0) (N := 5) hx hb hts hi4 hown hK.1 hP 2 rfl rfl 4 (by decide) hf180 (fun _ h9 => h9) rfl dX7_isMember_12 ?_
  refine lv_iload_n hx hb dX7_isMember_15 rfl (lv_at hl 1 rfl) ?_
  refine m_zald hx hb hK hP 6 (k := j) rfl rfl (by omega) (Nat.le_of_ble_eq_true rfl) dX7_isMember_16 ?_
  exact ro_zret hx hb hr hlocks (congrArg Value.int (ho.2.2.2.2.2.1 j (by omega))) rfl dX7_isMember_17

set_option maxRecDepth 100000 in
set_option maxHeartbeats 1000000 in
theorem c_X7_temperature (l : Launch) (G : va_G) (cy : Nat → ClassId) (aX : Nat) (na tr sn : Nat → Nat) (hs : Int32) (hi sc : Nat) (ep fc : Int32) (ob : Nat) (σ : St) (j : Nat) (ho : Ok σ) (hj : j < nB σ) (hwt : wet (vB σ) j = true) : RO l yX7_temperature wsX7_temperature { frames := 2, cells := 0, slots := 0, locals := 42 } (PB G cy [(aX, .inr (11, [.ref (na 0), .ref (tr 0), .ref (sn 0), .int hs, .ref hi, .ref sc, .int ep, .int fc, .ref ob])), (na 0, .inr (9, [.ref (na 1), .ref (na 2), .ref (na 3), .ref (na 4)])), (na 1, .inr (4, [.int (nI (nB σ)), .ref (na 5), .ref (na 6), .ref (na 7), .ref (na 8)])), (na 5, .inl (cy 2, 5, .inl (vB σ))), (na 6, .inl (cy 2, 5, .inl (hB σ))), (na 7, .inl (cy 3, 5, .inl (pB σ))), (na 8, .inl (cy 3, 5, .inl (mB σ))), (na 2, .inr (5, [.int (nI (nD σ)), .ref (na 9), .ref (na 10), .ref (na 11), .ref (na 12), .ref (na 13)])), (na 9, .inl (cy 2, 6, .inl (bD σ))), (na 10, .inl (cy 2, 6, .inl (lD σ))), (na 11, .inl (cy 2, 6, .inl (uD σ))), (na 12, .inl (cy 2, 6, .inl (qD σ))), (na 13, .inl (cy 3, 6, .inl (wD σ))), (na 3, .inr (6, [.int (nI (nE σ)), .ref (na 14), .ref (na 15), .ref (na 16)])), (na 14, .inl (cy 1, 10, .inl (kE σ))), (na 15, .inl (cy 2, 10, .inl (bE σ))), (na 16, .inl (cy 2, 10, .inl (lE σ))), (na 4, .inr (10, [.int (tT σ), .int (dT σ), .int (aT σ), .int (rT σ), .int (hT σ), .int (xT σ)]))]) [.ref aX, .int (nI j)] (some (.int (rdeg (hB σ j) (vB σ j)))) := by
  refine RO.ofW (cc := cX7_temperature) (maxL := 2) (ret := (some .int)) (by decide) rfl (Nat.le_of_ble_eq_true rfl) ?_
  intro p e s m below meth c S9 hr hlocks hPB ls hl
  obtain ⟨hx, hb, hml, hown, hts⟩ := id S9
  obtain ⟨hP, hK⟩ := hPB
  have hl : lv_has ls 2 [(0, .ref aX), (1, .int (nI j))] := hl
  have hi9 : ∀ w ∈ wsX50, w ∈ wsX7_temperature := by decide +kernel
  have hi11 : ∀ w ∈ wsX70, w ∈ wsX7_temperature := by decide +kernel
  have hf12 := hts (.fieldLink RX7 12 "BathLeague" "now" "LBathLeague$State;") (by decide +kernel)
  have hf77 := hts (.fieldLink RX7 77 "BathLeague$State" "baths" "LBathLeague$Baths;") (by decide +kernel)
  have hN0 := ho.1
  have hM0 := ho.2.1
  have hE0 := ho.2.2.1
  refine lv_aload_n hx hb dX7_temperature_0 rfl (lv_at hl 0 rfl) ?_
  refine lv_iload_n hx hb dX7_temperature_1 rfl (lv_at hl 1 rfl) ?_
  refine c_roVv S9 (c_X7_requireBath l G cy aX na tr sn hs hi sc ep fc ob σ j ho hj) (cwV 1 hts gX7_temperature_X7_requireBath rfl rfl rfl (by decide +kernel) ⟨Nat.le_of_ble_eq_true rfl, Nat.le_of_ble_eq_true rfl⟩) PB.blind (va_recv hK.1 hP (ci := 11) (q0 := 0) rfl rfl) (PB.at hK (m_Ppart hP [0, 1, 2, 3, 4, 5, 6, 7, 8, 9, 10, 11, 12, 13, 14, 15, 16, 17] rfl)) rfl hl.1 rfl (Nat.le_of_ble_eq_true rfl) ⟨Nat.zero_le _, Nat.zero_le _⟩ dX7_temperature_2 ?_
  refine lv_aload_n hx hb dX7_temperature_5 rfl (lv_at hl 0 rfl) ?_
  refine lv_iload_n hx hb dX7_temperature_6 rfl (lv_at hl 1 rfl) ?_
  refine c_roVv S9 (c_X7_requireWater l G cy aX na tr sn hs hi sc ep fc ob σ j ho (by omega) hwt) (cwV 1 hts gX7_temperature_X7_requireWater rfl rfl rfl (by decide +kernel) ⟨Nat.le_of_ble_eq_true rfl, Nat.le_of_ble_eq_true rfl⟩) PB.blind (va_recv hK.1 hP (ci := 11) (q0 := 0) rfl rfl) (PB.at hK (m_Ppart hP [0, 1, 2, 3, 4, 5, 6, 7, 8, 9, 10, 11, 12, 13, 14, 15, 16, 17] rfl)) rfl hl.1 rfl (Nat.le_of_ble_eq_true rfl) ⟨Nat.zero_le _, Nat.zero_le _⟩ dX7_temperature_7 ?_
  refine lv_aload_n hx hb dX7_temperature_10 rfl (lv_at hl 0 rfl) ?_
  refine va_get (D := G) (ci := 11) (v := .ref (na 0)) (C := RX7) (T := TX7) (N := 9) hx hb hts hi11 hown hK.1 hP 0 rfl rfl 0 (by decide) hf12 (fun _ h9 => h9) rfl dX7_temperature_11 ?_
  refine va_get (D := G) (ci := 9) (v := .ref (na 1)) (C := RX5) (T := TX5) (N := 4) hx hb hts hi9 hown hK.1 hP 1 rfl rfl 0 (by decide) hf77 (fun _ h9 => h9) rfl dX7_temperature_14 ?_
  refine lv_iload_n hx hb dX7_temperature_17 rfl (lv_at hl 1 rfl) ?_
  refine c_roVi S9 (c_X0_degrees l G cy (na 1) (na 5) (na 6) (na 7) (na 8) (nB σ) (vB σ) (hB σ) (pB σ) (mB σ) j (by omega)) (cwV 1 hts gX7_temperature_X0_degrees rfl rfl rfl (by decide +kernel) ⟨Nat.le_of_ble_eq_true rfl, Nat.le_of_ble_eq_true rfl⟩) PB.blind (va_recv hK.1 hP (ci := 4) (q0 := 2) rfl rfl) (PB.at hK (m_Ppart hP [2, 3, 4, 5, 6] rfl)) rfl hl.1 rfl (Nat.le_of_ble_eq_true rfl) ⟨Nat.zero_le _, Nat.zero_le _⟩ dX7_temperature_18 ?_
  exact ro_iret hx hb hr hlocks rfl dX7_temperature_21

set_option maxRecDepth 100000 in
set_option maxHeartbeats 1000000 in
theorem c_X7_isWarmer (l : Launch) (G : va_G) (cy : Nat → ClassId) (aX : Nat) (na tr sn : Nat → Nat) (hs : Int32) (hi sc : Nat) (ep fc : Int32) (ob : Nat) (σ : St) (j k9 : Nat) (ho : Ok σ) (hj : j < nB σ) (hk9 : k9 < nB σ) (hwt : wet (vB σ) j = true) (hwk : wet (vB σ) k9 = true) : RO l yX7_isWarmer wsX7_isWarmer { frames := 2, cells := 0, slots := 0, locals := 42 } (PB G cy [(aX, .inr (11, [.ref (na 0), .ref (tr 0), .ref (sn 0), .int hs, .ref hi, .ref sc, .int ep, .int fc, .ref ob])), (na 0, .inr (9, [.ref (na 1), .ref (na 2), .ref (na 3), .ref (na 4)])), (na 1, .inr (4, [.int (nI (nB σ)), .ref (na 5), .ref (na 6), .ref (na 7), .ref (na 8)])), (na 5, .inl (cy 2, 5, .inl (vB σ))), (na 6, .inl (cy 2, 5, .inl (hB σ))), (na 7, .inl (cy 3, 5, .inl (pB σ))), (na 8, .inl (cy 3, 5, .inl (mB σ))), (na 2, .inr (5, [.int (nI (nD σ)), .ref (na 9), .ref (na 10), .ref (na 11), .ref (na 12), .ref (na 13)])), (na 9, .inl (cy 2, 6, .inl (bD σ))), (na 10, .inl (cy 2, 6, .inl (lD σ))), (na 11, .inl (cy 2, 6, .inl (uD σ))), (na 12, .inl (cy 2, 6, .inl (qD σ))), (na 13, .inl (cy 3, 6, .inl (wD σ))), (na 3, .inr (6, [.int (nI (nE σ)), .ref (na 14), .ref (na 15), .ref (na 16)])), (na 14, .inl (cy 1, 10, .inl (kE σ))), (na 15, .inl (cy 2, 10, .inl (bE σ))), (na 16, .inl (cy 2, 10, .inl (lE σ))), (na 4, .inr (10, [.int (tT σ), .int (dT σ), .int (aT σ), .int (rT σ), .int (hT σ), .int (xT σ)]))]) [.ref aX, .int (nI j), .int (nI k9)] (some (.int (if hotter (vB σ) (hB σ) j k9 = true then 1 else 0))) := by
  refine RO.ofW (cc := cX7_isWarmer) (maxL := 3) (ret := (some .boolean)) (by decide) rfl (Nat.le_of_ble_eq_true rfl) ?_
  intro p e s m below meth c S9 hr hlocks hPB ls hl
  obtain ⟨hx, hb, hml, hown, hts⟩ := id S9
  obtain ⟨hP, hK⟩ := hPB
  have hl : lv_has ls 3 [(0, .ref aX), (1, .int (nI j)), (2, .int (nI k9))] := hl
  have hi9 : ∀ w ∈ wsX50, w ∈ wsX7_isWarmer := by decide +kernel
  have hi11 : ∀ w ∈ wsX70, w ∈ wsX7_isWarmer := by decide +kernel
  have hf12 := hts (.fieldLink RX7 12 "BathLeague" "now" "LBathLeague$State;") (by decide +kernel)
  have hf77 := hts (.fieldLink RX7 77 "BathLeague$State" "baths" "LBathLeague$Baths;") (by decide +kernel)
  have hN0 := ho.1
  have hM0 := ho.2.1
  have hE0 := ho.2.2.1
  refine lv_aload_n hx hb dX7_isWarmer_0 rfl (lv_at hl 0 rfl) ?_
  refine lv_iload_n hx hb dX7_isWarmer_1 rfl (lv_at hl 1 rfl) ?_
  refine c_roVv S9 (c_X7_requireBath l G cy aX na tr sn hs hi sc ep fc ob σ j ho hj) (cwV 1 hts gX7_isWarmer_X7_requireBath rfl rfl rfl (by decide +kernel) ⟨Nat.le_of_ble_eq_true rfl, Nat.le_of_ble_eq_true rfl⟩) PB.blind (va_recv hK.1 hP (ci := 11) (q0 := 0) rfl rfl) (PB.at hK (m_Ppart hP [0, 1, 2, 3, 4, 5, 6, 7, 8, 9, 10, 11, 12, 13, 14, 15, 16, 17] rfl)) rfl hl.1 rfl (Nat.le_of_ble_eq_true rfl) ⟨Nat.zero_le _, Nat.zero_le _⟩ dX7_isWarmer_2 ?_
  refine lv_aload_n hx hb dX7_isWarmer_5 rfl (lv_at hl 0 rfl) ?_
  refine lv_iload_n hx hb dX7_isWarmer_6 rfl (lv_at hl 2 rfl) ?_
  refine c_roVv S9 (c_X7_requireBath l G cy aX na tr sn hs hi sc ep fc ob σ k9 ho hk9) (cwV 1 hts gX7_isWarmer_X7_requireBath rfl rfl rfl (by decide +kernel) ⟨Nat.le_of_ble_eq_true rfl, Nat.le_of_ble_eq_true rfl⟩) PB.blind (va_recv hK.1 hP (ci := 11) (q0 := 0) rfl rfl) (PB.at hK (m_Ppart hP [0, 1, 2, 3, 4, 5, 6, 7, 8, 9, 10, 11, 12, 13, 14, 15, 16, 17] rfl)) rfl hl.1 rfl (Nat.le_of_ble_eq_true rfl) ⟨Nat.zero_le _, Nat.zero_le _⟩ dX7_isWarmer_7 ?_
  refine lv_aload_n hx hb dX7_isWarmer_10 rfl (lv_at hl 0 rfl) ?_
  refine lv_iload_n hx hb dX7_isWarmer_11 rfl (lv_at hl 1 rfl) ?_
  refine c_roVv S9 (c_X7_requireWater l G cy aX na tr sn hs hi sc ep fc ob σ j ho (by omega) hwt) (cwV 1 hts gX7_isWarmer_X7_requireWater rfl rfl rfl (by decide +kernel) ⟨Nat.le_of_ble_eq_true rfl, Nat.le_of_ble_eq_true rfl⟩) PB.blind (va_recv hK.1 hP (ci := 11) (q0 := 0) rfl rfl) (PB.at hK (m_Ppart hP [0, 1, 2, 3, 4, 5, 6, 7, 8, 9, 10, 11, 12, 13, 14, 15, 16, 17] rfl)) rfl hl.1 rfl (Nat.le_of_ble_eq_true rfl) ⟨Nat.zero_le _, Nat.zero_le _⟩ dX7_isWarmer_12 ?_
  refine lv_aload_n hx hb dX7_isWarmer_15 rfl (lv_at hl 0 rfl) ?_
  refine lv_iload_n hx hb dX7_isWarmer_16 rfl (lv_at hl 2 rfl) ?_
  refine c_roVv S9 (c_X7_requireWater l G cy aX na tr sn hs hi sc ep fc ob σ k9 ho (by omega) hwk) (cwV 1 hts gX7_isWarmer_X7_requireWater rfl rfl rfl (by decide +kernel) ⟨Nat.le_of_ble_eq_true rfl, Nat.le_of_ble_eq_true rfl⟩) PB.blind (va_recv hK.1 hP (ci := 11) (q0 := 0) rfl rfl) (PB.at hK (m_Ppart hP [0, 1, 2, 3, 4, 5, 6, 7, 8, 9, 10, 11, 12, 13, 14, 15, 16, 17] rfl)) rfl hl.1 rfl (Nat.le_of_ble_eq_true rfl) ⟨Nat.zero_le _, Nat.zero_le _⟩ dX7_isWarmer_17 ?_
  refine lv_aload_n hx hb dX7_isWarmer_20 rfl (lv_at hl 0 rfl) ?_
  refine va_get (D := G) (ci := 11) (v := .ref (na 0)) (C := RX7) (T := TX7) (N := 9) hx hb hts hi11 hown hK.1 hP 0 rfl rfl 0 (by decide) hf12 (fun _ h9 => h9) rfl dX7_isWarmer_21 ?_
  refine va_get (D := G) (ci := 9) (v := .ref (na 1)) (C := RX5) (T := TX5) (N := 4) hx hb hts hi9 hown hK.1 hP 1 rfl rfl 0 (by decide) hf77 (fun _ h9 => h9) rfl dX7_isWarmer_24 ?_
  refine lv_iload_n hx hb dX7_isWarmer_27 rfl (lv_at hl 1 rfl) ?_
  refine lv_iload_n hx hb dX7_isWarmer_28 rfl (lv_at hl 2 rfl) ?_
  refine c_roVi S9 (c_X0_isHotter l G cy (na 1) (na 5) (na 6) (na 7) (na 8) (nB σ) (vB σ) (hB σ) (pB σ) (mB σ) j k9 (by omega) (by omega)) (cwV 2 hts gX7_isWarmer_X0_isHotter rfl rfl rfl (by decide +kernel) ⟨Nat.le_of_ble_eq_true rfl, Nat.le_of_ble_eq_true rfl⟩) PB.blind (va_recv hK.1 hP (ci := 4) (q0 := 2) rfl rfl) (PB.at hK (m_Ppart hP [2, 3, 4, 5, 6] rfl)) rfl hl.1 rfl (Nat.le_of_ble_eq_true rfl) ⟨Nat.zero_le _, Nat.zero_le _⟩ dX7_isWarmer_29 ?_
  exact ro_zret hx hb hr hlocks (by first | rfl | (split <;> rfl)) rfl dX7_isWarmer_32

set_option maxRecDepth 100000 in
set_option maxHeartbeats 1000000 in
theorem c_X7_memberCount (l : Launch) (G : va_G) (cy : Nat → ClassId) (aX : Nat) (na tr sn : Nat → Nat) (hs : Int32) (hi sc : Nat) (ep fc : Int32) (ob : Nat) (σ : St) (ho : Ok σ) : RO l yX7_memberCount wsX7_memberCount { frames := 1, cells := 0, slots := 0, locals := 22 } (PB G cy [(aX, .inr (11, [.ref (na 0), .ref (tr 0), .ref (sn 0), .int hs, .ref hi, .ref sc, .int ep, .int fc, .ref ob])), (na 0, .inr (9, [.ref (na 1), .ref (na 2), .ref (na 3), .ref (na 4)])), (na 1, .inr (4, [.int (nI (nB σ)), .ref (na 5), .ref (na 6), .ref (na 7), .ref (na 8)])), (na 5, .inl (cy 2, 5, .inl (vB σ))), (na 6, .inl (cy 2, 5, .inl (hB σ))), (na 7, .inl (cy 3, 5, .inl (pB σ))), (na 8, .inl (cy 3, 5, .inl (mB σ))), (na 2, .inr (5, [.int (nI (nD σ)), .ref (na 9), .ref (na 10), .ref (na 11), .ref (na 12), .ref (na 13)])), (na 9, .inl (cy 2, 6, .inl (bD σ))), (na 10, .inl (cy 2, 6, .inl (lD σ))), (na 11, .inl (cy 2, 6, .inl (uD σ))), (na 12, .inl (cy 2, 6, .inl (qD σ))), (na 13, .inl (cy 3, 6, .inl (wD σ))), (na 3, .inr (6, [.int (nI (nE σ)), .ref (na 14), .ref (na 15), .ref (na 16)])), (na 14, .inl (cy 1, 10, .inl (kE σ))), (na 15, .inl (cy 2, 10, .inl (bE σ))), (na 16, .inl (cy 2, 10, .inl (lE σ))), (na 4, .inr (10, [.int (tT σ), .int (dT σ), .int (aT σ), .int (rT σ), .int (hT σ), .int (xT σ)]))]) [.ref aX] (some (.int (cntM (mB σ) (nB σ)))) := by
  refine RO.ofW (cc := cX7_memberCount) (maxL := 1) (ret := (some .int)) (by decide) rfl (Nat.le_of_ble_eq_true rfl) ?_
  intro p e s m below meth c S9 hr hlocks hPB ls hl
  obtain ⟨hx, hb, hml, hown, hts⟩ := id S9
  obtain ⟨hP, hK⟩ := hPB
  have hl : lv_has ls 1 [(0, .ref aX)] := hl
  have hi9 : ∀ w ∈ wsX50, w ∈ wsX7_memberCount := by decide +kernel
  have hi11 : ∀ w ∈ wsX70, w ∈ wsX7_memberCount := by decide +kernel
  have hf12 := hts (.fieldLink RX7 12 "BathLeague" "now" "LBathLeague$State;") (by decide +kernel)
  have hf77 := hts (.fieldLink RX7 77 "BathLeague$State" "baths" "LBathLeague$Baths;") (by decide +kernel)
  have hN0 := ho.1
  have hM0 := ho.2.1
  have hE0 := ho.2.2.1
  refine lv_aload_n hx hb dX7_memberCount_0 rfl (lv_at hl 0 rfl) ?_
  refine va_get (D := G) (ci := 11) (v := .ref (na 0)) (C := RX7) (T := TX7) (N := 9) hx hb hts hi11 hown hK.1 hP 0 rfl rfl 0 (by decide) hf12 (fun _ h9 => h9) rfl dX7_memberCount_1 ?_
  refine va_get (D := G) (ci := 9) (v := .ref (na 1)) (C := RX5) (T := TX5) (N := 4) hx hb hts hi9 hown hK.1 hP 1 rfl rfl 0 (by decide) hf77 (fun _ h9 => h9) rfl dX7_memberCount_4 ?_
  refine c_roVi S9 (c_X0_members l G cy (na 1) (na 5) (na 6) (na 7) (na 8) (nB σ) (vB σ) (hB σ) (pB σ) (mB σ) ho.1) (cwV 0 hts gX7_memberCount_X0_members rfl rfl rfl (by decide +kernel) ⟨Nat.le_of_ble_eq_true rfl, Nat.le_of_ble_eq_true rfl⟩) PB.blind (va_recv hK.1 hP (ci := 4) (q0 := 2) rfl rfl) (PB.at hK (m_Ppart hP [2, 3, 4, 5, 6] rfl)) rfl hl.1 rfl (Nat.le_of_ble_eq_true rfl) ⟨Nat.zero_le _, Nat.zero_le _⟩ dX7_memberCount_7 ?_
  exact ro_iret hx hb hr hlocks rfl dX7_memberCount_10

set_option maxRecDepth 100000 in
set_option maxHeartbeats 1000000 in
theorem c_X7_leagueHeat (l : Launch) (G : va_G) (cy : Nat → ClassId) (aX : Nat) (na tr sn : Nat → Nat) (hs : Int32) (hi sc : Nat) (ep fc : Int32) (ob : Nat) (σ : St) (ho : Ok σ) : RO l yX7_leagueHeat wsX7_leagueHeat { frames := 1, cells := 0, slots := 0, locals := 22 } (PB G cy [(aX, .inr (11, [.ref (na 0), .ref (tr 0), .ref (sn 0), .int hs, .ref hi, .ref sc, .int ep, .int fc, .ref ob])), (na 0, .inr (9, [.ref (na 1), .ref (na 2), .ref (na 3), .ref (na 4)])), (na 1, .inr (4, [.int (nI (nB σ)), .ref (na 5), .ref (na 6), .ref (na 7), .ref (na 8)])), (na 5, .inl (cy 2, 5, .inl (vB σ))), (na 6, .inl (cy 2, 5, .inl (hB σ))), (na 7, .inl (cy 3, 5, .inl (pB σ))), (na 8, .inl (cy 3, 5, .inl (mB σ))), (na 2, .inr (5, [.int (nI (nD σ)), .ref (na 9), .ref (na 10), .ref (na 11), .ref (na 12), .ref (na 13)])), (na 9, .inl (cy 2, 6, .inl (bD σ))), (na 10, .inl (cy 2, 6, .inl (lD σ))), (na 11, .inl (cy 2, 6, .inl (uD σ))), (na 12, .inl (cy 2, 6, .inl (qD σ))), (na 13, .inl (cy 3, 6, .inl (wD σ))), (na 3, .inr (6, [.int (nI (nE σ)), .ref (na 14), .ref (na 15), .ref (na 16)])), (na 14, .inl (cy 1, 10, .inl (kE σ))), (na 15, .inl (cy 2, 10, .inl (bE σ))), (na 16, .inl (cy 2, 10, .inl (lE σ))), (na 4, .inr (10, [.int (tT σ), .int (dT σ), .int (aT σ), .int (rT σ), .int (hT σ), .int (xT σ)]))]) [.ref aX] (some (.int (sumM (hB σ) (mB σ) (nB σ)))) := by
  refine RO.ofW (cc := cX7_leagueHeat) (maxL := 1) (ret := (some .int)) (by decide) rfl (Nat.le_of_ble_eq_true rfl) ?_
  intro p e s m below meth c S9 hr hlocks hPB ls hl
  obtain ⟨hx, hb, hml, hown, hts⟩ := id S9
  obtain ⟨hP, hK⟩ := hPB
  have hl : lv_has ls 1 [(0, .ref aX)] := hl
  have hi9 : ∀ w ∈ wsX50, w ∈ wsX7_leagueHeat := by decide +kernel
  have hi11 : ∀ w ∈ wsX70, w ∈ wsX7_leagueHeat := by decide +kernel
  have hf12 := hts (.fieldLink RX7 12 "BathLeague" "now" "LBathLeague$State;") (by decide +kernel)
  have hf77 := hts (.fieldLink RX7 77 "BathLeague$State" "baths" "LBathLeague$Baths;") (by decide +kernel)
  have hN0 := ho.1
  have hM0 := ho.2.1
  have hE0 := ho.2.2.1
  refine lv_aload_n hx hb dX7_leagueHeat_0 rfl (lv_at hl 0 rfl) ?_
  refine va_get (D := G) (ci := 11) (v := .ref (na 0)) (C := RX7) (T := TX7) (N := 9) hx hb hts hi11 hown hK.1 hP 0 rfl rfl 0 (by decide) hf12 (fun _ h9 => h9) rfl dX7_leagueHeat_1 ?_
  refine va_get (D := G) (ci := 9) (v := .ref (na 1)) (C := RX5) (T := TX5) (N := 4) hx hb hts hi9 hown hK.1 hP 1 rfl rfl 0 (by decide) hf77 (fun _ h9 => h9) rfl dX7_leagueHeat_4 ?_
  refine c_roVi S9 (c_X0_heatOfMembers l G cy (na 1) (na 5) (na 6) (na 7) (na 8) (nB σ) (vB σ) (hB σ) (pB σ) (mB σ) ho.1) (cwV 0 hts gX7_leagueHeat_X0_heatOfMembers rfl rfl rfl (by decide +kernel) ⟨Nat.le_of_ble_eq_true rfl, Nat.le_of_ble_eq_true rfl⟩) PB.blind (va_recv hK.1 hP (ci := 4) (q0 := 2) rfl rfl) (PB.at hK (m_Ppart hP [2, 3, 4, 5, 6] rfl)) rfl hl.1 rfl (Nat.le_of_ble_eq_true rfl) ⟨Nat.zero_le _, Nat.zero_le _⟩ dX7_leagueHeat_7 ?_
  exact ro_iret hx hb hr hlocks rfl dX7_leagueHeat_10

set_option maxRecDepth 100000 in
set_option maxHeartbeats 1000000 in
theorem c_X7_leagueHeatByOthers (l : Launch) (G : va_G) (cy : Nat → ClassId) (aX : Nat) (na tr sn : Nat → Nat) (hs : Int32) (hi sc : Nat) (ep fc : Int32) (ob : Nat) (σ : St) (ho : Ok σ) : RO l yX7_leagueHeatByOthers wsX7_leagueHeatByOthers { frames := 1, cells := 0, slots := 0, locals := 22 } (PB G cy [(aX, .inr (11, [.ref (na 0), .ref (tr 0), .ref (sn 0), .int hs, .ref hi, .ref sc, .int ep, .int fc, .ref ob])), (na 0, .inr (9, [.ref (na 1), .ref (na 2), .ref (na 3), .ref (na 4)])), (na 1, .inr (4, [.int (nI (nB σ)), .ref (na 5), .ref (na 6), .ref (na 7), .ref (na 8)])), (na 5, .inl (cy 2, 5, .inl (vB σ))), (na 6, .inl (cy 2, 5, .inl (hB σ))), (na 7, .inl (cy 3, 5, .inl (pB σ))), (na 8, .inl (cy 3, 5, .inl (mB σ))), (na 2, .inr (5, [.int (nI (nD σ)), .ref (na 9), .ref (na 10), .ref (na 11), .ref (na 12), .ref (na 13)])), (na 9, .inl (cy 2, 6, .inl (bD σ))), (na 10, .inl (cy 2, 6, .inl (lD σ))), (na 11, .inl (cy 2, 6, .inl (uD σ))), (na 12, .inl (cy 2, 6, .inl (qD σ))), (na 13, .inl (cy 3, 6, .inl (wD σ))), (na 3, .inr (6, [.int (nI (nE σ)), .ref (na 14), .ref (na 15), .ref (na 16)])), (na 14, .inl (cy 1, 10, .inl (kE σ))), (na 15, .inl (cy 2, 10, .inl (bE σ))), (na 16, .inl (cy 2, 10, .inl (lE σ))), (na 4, .inr (10, [.int (tT σ), .int (dT σ), .int (aT σ), .int (rT σ), .int (hT σ), .int (xT σ)]))]) [.ref aX] (some (.int (sumA (hB σ) (nB σ) - sumO (hB σ) (mB σ) (nB σ)))) := by
  refine RO.ofW (cc := cX7_leagueHeatByOthers) (maxL := 1) (ret := (some .int)) (by decide) rfl (Nat.le_of_ble_eq_true rfl) ?_
  intro p e s m below meth c S9 hr hlocks hPB ls hl
  obtain ⟨hx, hb, hml, hown, hts⟩ := id S9
  obtain ⟨hP, hK⟩ := hPB
  have hl : lv_has ls 1 [(0, .ref aX)] := hl
  have hi9 : ∀ w ∈ wsX50, w ∈ wsX7_leagueHeatByOthers := by decide +kernel
  have hi11 : ∀ w ∈ wsX70, w ∈ wsX7_leagueHeatByOthers := by decide +kernel
  have hf12 := hts (.fieldLink RX7 12 "BathLeague" "now" "LBathLeague$State;") (by decide +kernel)
  have hf77 := hts (.fieldLink RX7 77 "BathLeague$State" "baths" "LBathLeague$Baths;") (by decide +kernel)
  have hN0 := ho.1
  have hM0 := ho.2.1
  have hE0 := ho.2.2.1
  refine lv_aload_n hx hb dX7_leagueHeatByOthers_0 rfl (lv_at hl 0 rfl) ?_
  refine va_get (D := G) (ci := 11) (v := .ref (na 0)) (C := RX7) (T := TX7) (N := 9) hx hb hts hi11 hown hK.1 hP 0 rfl rfl 0 (by decide) hf12 (fun _ h9 => h9) rfl dX7_leagueHeatByOthers_1 ?_
  refine va_get (D := G) (ci := 9) (v := .ref (na 1)) (C := RX5) (T := TX5) (N := 4) hx hb hts hi9 hown hK.1 hP 1 rfl rfl 0 (by decide) hf77 (fun _ h9 => h9) rfl dX7_leagueHeatByOthers_4 ?_
  refine c_roVi S9 (c_X0_heatOfAll l G cy (na 1) (na 5) (na 6) (na 7) (na 8) (nB σ) (vB σ) (hB σ) (pB σ) (mB σ) ho.1) (cwV 0 hts gX7_leagueHeatByOthers_X0_heatOfAll rfl rfl rfl (by decide +kernel) ⟨Nat.le_of_ble_eq_true rfl, Nat.le_of_ble_eq_true rfl⟩) PB.blind (va_recv hK.1 hP (ci := 4) (q0 := 2) rfl rfl) (PB.at hK (m_Ppart hP [2, 3, 4, 5, 6] rfl)) rfl hl.1 rfl (Nat.le_of_ble_eq_true rfl) ⟨Nat.zero_le _, Nat.zero_le _⟩ dX7_leagueHeatByOthers_7 ?_
  refine lv_aload_n hx hb dX7_leagueHeatByOthers_10 rfl (lv_at hl 0 rfl) ?_
  refine va_get (D := G) (ci := 11) (v := .ref (na 0)) (C := RX7) (T := TX7) (N := 9) hx hb hts hi11 hown hK.1 hP 0 rfl rfl 0 (by decide) hf12 (fun _ h9 => h9) rfl dX7_leagueHeatByOthers_11 ?_
  refine va_get (D := G) (ci := 9) (v := .ref (na 1)) (C := RX5) (T := TX5) (N := 4) hx hb hts hi9 hown hK.1 hP 1 rfl rfl 0 (by decide) hf77 (fun _ h9 => h9) rfl dX7_leagueHeatByOthers_14 ?_
  refine c_roVi S9 (c_X0_heatOfOthers l G cy (na 1) (na 5) (na 6) (na 7) (na 8) (nB σ) (vB σ) (hB σ) (pB σ) (mB σ) ho.1) (cwV 0 hts gX7_leagueHeatByOthers_X0_heatOfOthers rfl rfl rfl (by decide +kernel) ⟨Nat.le_of_ble_eq_true rfl, Nat.le_of_ble_eq_true rfl⟩) PB.blind (va_recv hK.1 hP (ci := 4) (q0 := 2) rfl rfl) (PB.at hK (m_Ppart hP [2, 3, 4, 5, 6] rfl)) rfl hl.1 rfl (Nat.le_of_ble_eq_true rfl) ⟨Nat.zero_le _, Nat.zero_le _⟩ dX7_leagueHeatByOthers_17 ?_
  refine lv_isub hx hb dX7_leagueHeatByOthers_20 ?_
  exact ro_iret hx hb hr hlocks rfl dX7_leagueHeatByOthers_21

set_option maxRecDepth 100000 in
set_option maxHeartbeats 1000000 in
theorem c_X7_bathByTemperature (l : Launch) (G : va_G) (cy : Nat → ClassId) (aX : Nat) (na tr sn : Nat → Nat) (hs : Int32) (hi sc : Nat) (ep fc : Int32) (ob : Nat) (σ : St) (j : Nat) (ho : Ok σ) (hj : j < nB σ) : RO l yX7_bathByTemperature wsX7_bathByTemperature { frames := 4, cells := 0, slots := 0, locals := 89 } (PB G cy [(aX, .inr (11, [.ref (na 0), .ref (tr 0), .ref (sn 0), .int hs, .ref hi, .ref sc, .int ep, .int fc, .ref ob])), (na 0, .inr (9, [.ref (na 1), .ref (na 2), .ref (na 3), .ref (na 4)])), (na 1, .inr (4, [.int (nI (nB σ)), .ref (na 5), .ref (na 6), .ref (na 7), .ref (na 8)])), (na 5, .inl (cy 2, 5, .inl (vB σ))), (na 6, .inl (cy 2, 5, .inl (hB σ))), (na 7, .inl (cy 3, 5, .inl (pB σ))), (na 8, .inl (cy 3, 5, .inl (mB σ))), (na 2, .inr (5, [.int (nI (nD σ)), .ref (na 9), .ref (na 10), .ref (na 11), .ref (na 12), .ref (na 13)])), (na 9, .inl (cy 2, 6, .inl (bD σ))), (na 10, .inl (cy 2, 6, .inl (lD σ))), (na 11, .inl (cy 2, 6, .inl (uD σ))), (na 12, .inl (cy 2, 6, .inl (qD σ))), (na 13, .inl (cy 3, 6, .inl (wD σ))), (na 3, .inr (6, [.int (nI (nE σ)), .ref (na 14), .ref (na 15), .ref (na 16)])), (na 14, .inl (cy 1, 10, .inl (kE σ))), (na 15, .inl (cy 2, 10, .inl (bE σ))), (na 16, .inl (cy 2, 10, .inl (lE σ))), (na 4, .inr (10, [.int (tT σ), .int (dT σ), .int (aT σ), .int (rT σ), .int (hT σ), .int (xT σ)]))]) [.ref aX, .int (nI j)] (some (.int (atF (fun j => rkN (vB σ) (hB σ) j (nB σ)) (nI j) 0 (nB σ)))) := by
  refine RO.ofW (cc := cX7_bathByTemperature) (maxL := 2) (ret := (some .int)) (by decide) rfl (Nat.le_of_ble_eq_true rfl) ?_
  intro p e s m below meth c S9 hr hlocks hPB ls hl
  obtain ⟨hx, hb, hml, hown, hts⟩ := id S9
  obtain ⟨hP, hK⟩ := hPB
  have hl : lv_has ls 2 [(0, .ref aX), (1, .int (nI j))] := hl
  have hi4 : ∀ w ∈ wsX00, w ∈ wsX7_bathByTemperature := by decide +kernel
  have hi9 : ∀ w ∈ wsX50, w ∈ wsX7_bathByTemperature := by decide +kernel
  have hi11 : ∀ w ∈ wsX70, w ∈ wsX7_bathByTemperature := by decide +kernel
  have hf12 := hts (.fieldLink RX7 12 "BathLeague" "now" "LBathLeague$State;") (by decide +kernel)
  have hf77 := hts (.fieldLink RX7 77 "BathLeague$State" "baths" "LBathLeague$Baths;") (by decide +kernel)
  have hf141 := hts (.fieldLink RX7 141 "BathLeague$Baths" "count" "I") (by decide +kernel)
  have hN0 := ho.1
  have hM0 := ho.2.1
  have hE0 := ho.2.2.1
  refine lv_iload_n hx hb dX7_bathByTemperature_0 rfl (lv_at hl 1 rfl) ?_
  refine lv_aload_n hx hb dX7_bathByTemperature_1 rfl (lv_at hl 0 rfl) ?_
  refine va_get (D := G) (ci := 11) (v := .ref (na 0)) (C := RX7) (T := TX7) (N := 9) hx hb hts hi11 hown hK.1 hP 0 rfl rfl 0 (by decide) hf12 (fun _ h9 => h9) rfl dX7_bathByTemperature_2 ?_
  refine va_get (D := G) (ci := 9) (v := .ref (na 1)) (C := RX5) (T := TX5) (N := 4) hx hb hts hi9 hown hK.1 hP 1 rfl rfl 0 (by decide) hf77 (fun _ h9 => h9) rfl dX7_bathByTemperature_5 ?_
  refine va_get (D := G) (ci := 4) (v := .int (nI (nB σ))) (C := RX0) (T := TX0) (N := 5) hx hb hts hi4 hown hK.1 hP 2 rfl rfl 0 (by decide) hf141 (fun _ h9 => h9) rfl dX7_bathByTemperature_8 ?_
  refine c_roSv S9 (c_X7_requireElement l G cy j (nB σ) hj (by omega)) (va_cwS 2 hts gX7_bathByTemperature_X7_requireElement rfl rfl rfl (by decide +kernel) ⟨Nat.le_of_ble_eq_true rfl, Nat.le_of_ble_eq_true rfl⟩) PB.blind (PB.at hK (m_Ppart hP [] rfl)) rfl hl.1 rfl (Nat.le_of_ble_eq_true rfl) ⟨Nat.zero_le _, Nat.zero_le _⟩ dX7_bathByTemperature_11 ?_
  refine lv_aload_n hx hb dX7_bathByTemperature_14 rfl (lv_at hl 0 rfl) ?_
  refine va_get (D := G) (ci := 11) (v := .ref (na 0)) (C := RX7) (T := TX7) (N := 9) hx hb hts hi11 hown hK.1 hP 0 rfl rfl 0 (by decide) hf12 (fun _ h9 => h9) rfl dX7_bathByTemperature_15 ?_
  refine va_get (D := G) (ci := 9) (v := .ref (na 1)) (C := RX5) (T := TX5) (N := 4) hx hb hts hi9 hown hK.1 hP 1 rfl rfl 0 (by decide) hf77 (fun _ h9 => h9) rfl dX7_bathByTemperature_18 ?_
  refine lv_iload_n hx hb dX7_bathByTemperature_21 rfl (lv_at hl 1 rfl) ?_
  refine c_roVi S9 (c_X0_atRank l G cy (na 1) (na 5) (na 6) (na 7) (na 8) (nB σ) (vB σ) (hB σ) (pB σ) (mB σ) (nI j) ho.1) (cwV 1 hts gX7_bathByTemperature_X0_atRank rfl rfl rfl (by decide +kernel) ⟨Nat.le_of_ble_eq_true rfl, Nat.le_of_ble_eq_true rfl⟩) PB.blind (va_recv hK.1 hP (ci := 4) (q0 := 2) rfl rfl) (PB.at hK (m_Ppart hP [2, 3, 4, 5, 6] rfl)) rfl hl.1 rfl (Nat.le_of_ble_eq_true rfl) ⟨Nat.zero_le _, Nat.zero_le _⟩ dX7_bathByTemperature_22 ?_
  exact ro_iret hx hb hr hlocks rfl dX7_bathByTemperature_25

set_option maxRecDepth 100000 in
set_option maxHeartbeats 1000000 in
theorem c_X7_observedBath (l : Launch) (G : va_G) (cy : Nat → ClassId) (aX : Nat) (na tr sn : Nat → Nat) (hs : Int32) (hi sc : Nat) (ep fc : Int32) (ob : Nat) (σ : St) (j : Nat) (ho : Ok σ) (hj : j < nD σ) : RO l yX7_observedBath wsX7_observedBath { frames := 1, cells := 0, slots := 0, locals := 21 } (PB G cy [(aX, .inr (11, [.ref (na 0), .ref (tr 0), .ref (sn 0), .int hs, .ref hi, .ref sc, .int ep, .int fc, .ref ob])), (na 0, .inr (9, [.ref (na 1), .ref (na 2), .ref (na 3), .ref (na 4)])), (na 1, .inr (4, [.int (nI (nB σ)), .ref (na 5), .ref (na 6), .ref (na 7), .ref (na 8)])), (na 5, .inl (cy 2, 5, .inl (vB σ))), (na 6, .inl (cy 2, 5, .inl (hB σ))), (na 7, .inl (cy 3, 5, .inl (pB σ))), (na 8, .inl (cy 3, 5, .inl (mB σ))), (na 2, .inr (5, [.int (nI (nD σ)), .ref (na 9), .ref (na 10), .ref (na 11), .ref (na 12), .ref (na 13)])), (na 9, .inl (cy 2, 6, .inl (bD σ))), (na 10, .inl (cy 2, 6, .inl (lD σ))), (na 11, .inl (cy 2, 6, .inl (uD σ))), (na 12, .inl (cy 2, 6, .inl (qD σ))), (na 13, .inl (cy 3, 6, .inl (wD σ))), (na 3, .inr (6, [.int (nI (nE σ)), .ref (na 14), .ref (na 15), .ref (na 16)])), (na 14, .inl (cy 1, 10, .inl (kE σ))), (na 15, .inl (cy 2, 10, .inl (bE σ))), (na 16, .inl (cy 2, 10, .inl (lE σ))), (na 4, .inr (10, [.int (tT σ), .int (dT σ), .int (aT σ), .int (rT σ), .int (hT σ), .int (xT σ)]))]) [.ref aX, .int (nI j)] (some (.int (bD σ j))) := by
  refine RO.ofW (cc := cX7_observedBath) (maxL := 2) (ret := (some .int)) (by decide) rfl (Nat.le_of_ble_eq_true rfl) ?_
  intro p e s m below meth c S9 hr hlocks hPB ls hl
  obtain ⟨hx, hb, hml, hown, hts⟩ := id S9
  obtain ⟨hP, hK⟩ := hPB
  have hl : lv_has ls 2 [(0, .ref aX), (1, .int (nI j))] := hl
  have hi5 : ∀ w ∈ wsX10, w ∈ wsX7_observedBath := by decide +kernel
  have hi9 : ∀ w ∈ wsX50, w ∈ wsX7_observedBath := by decide +kernel
  have hi11 : ∀ w ∈ wsX70, w ∈ wsX7_observedBath := by decide +kernel
  have hf12 := hts (.fieldLink RX7 12 "BathLeague" "now" "LBathLeague$State;") (by decide +kernel)
  have hf232 := hts (.fieldLink RX7 232 "BathLeague$State" "ducks" "LBathLeague$Ducks;") (by decide +kernel)
  have hf242 := hts (.fieldLink RX7 242 "BathLeague$Ducks" "bath" "[I") (by decide +kernel)
  have hN0 := ho.1
  have hM0 := ho.2.1
  have hE0 := ho.2.2.1
  refine lv_aload_n hx hb dX7_observedBath_0 rfl (lv_at hl 0 rfl) ?_
  refine lv_iload_n hx hb dX7_observedBath_1 rfl (lv_at hl 1 rfl) ?_
  refine c_roVv S9 (c_X7_requireDuck l G cy aX na tr sn hs hi sc ep fc ob σ j ho hj) (cwV 1 hts gX7_observedBath_X7_requireDuck rfl rfl rfl (by decide +kernel) ⟨Nat.le_of_ble_eq_true rfl, Nat.le_of_ble_eq_true rfl⟩) PB.blind (va_recv hK.1 hP (ci := 11) (q0 := 0) rfl rfl) (PB.at hK (m_Ppart hP [0, 1, 2, 3, 4, 5, 6, 7, 8, 9, 10, 11, 12, 13, 14, 15, 16, 17] rfl)) rfl hl.1 rfl (Nat.le_of_ble_eq_true rfl) ⟨Nat.zero_le _, Nat.zero_le _⟩ dX7_observedBath_2 ?_
  refine lv_aload_n hx hb dX7_observedBath_5 rfl (lv_at hl 0 rfl) ?_
  refine va_get (D := G) (ci := 11) (v := .ref (na 0)) (C := RX7) (T := TX7) (N := 9) hx hb hts hi11 hown hK.1 hP 0 rfl rfl 0 (by decide) hf12 (fun _ h9 => h9) rfl dX7_observedBath_6 ?_
  refine va_get (D := G) (ci := 9) (v := .ref (na 2)) (C := RX5) (T := TX5) (N := 4) hx hb hts hi9 hown hK.1 hP 1 rfl rfl 1 (by decide) hf232 (fun _ h9 => h9) rfl dX7_observedBath_9 ?_
  refine va_get (D := G) (ci := 5) (v := .ref (na 9)) (C := RX1) (T := TX1) (N := 6) hx hb hts hi5 hown hK.1 hP 7 rfl rfl 1 (by decide) hf242 (fun _ h9 => h9) rfl dX7_observedBath_12 ?_
  refine lv_iload_n hx hb dX7_observedBath_15 rfl (lv_at hl 1 rfl) ?_
  refine m_iald hx hb hK hP 8 (k := j) rfl rfl (by omega) (Nat.le_of_ble_eq_true rfl) dX7_observedBath_16 ?_
  exact ro_iret hx hb hr hlocks rfl dX7_observedBath_17

set_option maxRecDepth 100000 in
set_option maxHeartbeats 1000000 in
theorem c_X7_lowerBound (l : Launch) (G : va_G) (cy : Nat → ClassId) (aX : Nat) (na tr sn : Nat → Nat) (hs : Int32) (hi sc : Nat) (ep fc : Int32) (ob : Nat) (σ : St) (j : Nat) (ho : Ok σ) (hj : j < nD σ) : RO l yX7_lowerBound wsX7_lowerBound { frames := 1, cells := 0, slots := 0, locals := 21 } (PB G cy [(aX, .inr (11, [.ref (na 0), .ref (tr 0), .ref (sn 0), .int hs, .ref hi, .ref sc, .int ep, .int fc, .ref ob])), (na 0, .inr (9, [.ref (na 1), .ref (na 2), .ref (na 3), .ref (na 4)])), (na 1, .inr (4, [.int (nI (nB σ)), .ref (na 5), .ref (na 6), .ref (na 7), .ref (na 8)])), (na 5, .inl (cy 2, 5, .inl (vB σ))), (na 6, .inl (cy 2, 5, .inl (hB σ))), (na 7, .inl (cy 3, 5, .inl (pB σ))), (na 8, .inl (cy 3, 5, .inl (mB σ))), (na 2, .inr (5, [.int (nI (nD σ)), .ref (na 9), .ref (na 10), .ref (na 11), .ref (na 12), .ref (na 13)])), (na 9, .inl (cy 2, 6, .inl (bD σ))), (na 10, .inl (cy 2, 6, .inl (lD σ))), (na 11, .inl (cy 2, 6, .inl (uD σ))), (na 12, .inl (cy 2, 6, .inl (qD σ))), (na 13, .inl (cy 3, 6, .inl (wD σ))), (na 3, .inr (6, [.int (nI (nE σ)), .ref (na 14), .ref (na 15), .ref (na 16)])), (na 14, .inl (cy 1, 10, .inl (kE σ))), (na 15, .inl (cy 2, 10, .inl (bE σ))), (na 16, .inl (cy 2, 10, .inl (lE σ))), (na 4, .inr (10, [.int (tT σ), .int (dT σ), .int (aT σ), .int (rT σ), .int (hT σ), .int (xT σ)]))]) [.ref aX, .int (nI j)] (some (.int (lD σ j))) := by
  refine RO.ofW (cc := cX7_lowerBound) (maxL := 2) (ret := (some .int)) (by decide) rfl (Nat.le_of_ble_eq_true rfl) ?_
  intro p e s m below meth c S9 hr hlocks hPB ls hl
  obtain ⟨hx, hb, hml, hown, hts⟩ := id S9
  obtain ⟨hP, hK⟩ := hPB
  have hl : lv_has ls 2 [(0, .ref aX), (1, .int (nI j))] := hl
  have hi5 : ∀ w ∈ wsX10, w ∈ wsX7_lowerBound := by decide +kernel
  have hi9 : ∀ w ∈ wsX50, w ∈ wsX7_lowerBound := by decide +kernel
  have hi11 : ∀ w ∈ wsX70, w ∈ wsX7_lowerBound := by decide +kernel
  have hf12 := hts (.fieldLink RX7 12 "BathLeague" "now" "LBathLeague$State;") (by decide +kernel)
  have hf232 := hts (.fieldLink RX7 232 "BathLeague$State" "ducks" "LBathLeague$Ducks;") (by decide +kernel)
  have hf245 := hts (.fieldLink RX7 245 "BathLeague$Ducks" "low" "[I") (by decide +kernel)
  have hN0 := ho.1
  have hM0 := ho.2.1
  have hE0 := ho.2.2.1
  refine lv_aload_n hx hb dX7_lowerBound_0 rfl (lv_at hl 0 rfl) ?_
  refine lv_iload_n hx hb dX7_lowerBound_1 rfl (lv_at hl 1 rfl) ?_
  refine c_roVv S9 (c_X7_requireDuck l G cy aX na tr sn hs hi sc ep fc ob σ j ho hj) (cwV 1 hts gX7_lowerBound_X7_requireDuck rfl rfl rfl (by decide +kernel) ⟨Nat.le_of_ble_eq_true rfl, Nat.le_of_ble_eq_true rfl⟩) PB.blind (va_recv hK.1 hP (ci := 11) (q0 := 0) rfl rfl) (PB.at hK (m_Ppart hP [0, 1, 2, 3, 4, 5, 6, 7, 8, 9, 10, 11, 12, 13, 14, 15, 16, 17] rfl)) rfl hl.1 rfl (Nat.le_of_ble_eq_true rfl) ⟨Nat.zero_le _, Nat.zero_le _⟩ dX7_lowerBound_2 ?_
  refine lv_aload_n hx hb dX7_lowerBound_5 rfl (lv_at hl 0 rfl) ?_
  refine va_get (D := G) (ci := 11) (v := .ref (na 0)) (C := RX7) (T := TX7) (N := 9) hx hb hts hi11 hown hK.1 hP 0 rfl rfl 0 (by decide) hf12 (fun _ h9 => h9) rfl dX7_lowerBound_6 ?_
  refine va_get (D := G) (ci := 9) (v := .ref (na 2)) (C := RX5) (T := TX5) (N := 4) hx hb hts hi9 hown hK.1 hP 1 rfl rfl 1 (by decide) hf232 (fun _ h9 => h9) rfl dX7_lowerBound_9 ?_
  refine va_get (D := G) (ci := 5) (v := .ref (na 10)) (C := RX1) (T := TX1) (N := 6) hx hb hts hi5 hown hK.1 hP 7 rfl rfl 2 (by decide) hf245 (fun _ h9 => h9) rfl dX7_lowerBound_12 ?_
  refine lv_iload_n hx hb dX7_lowerBound_15 rfl (lv_at hl 1 rfl) ?_
  refine m_iald hx hb hK hP 9 (k := j) rfl rfl (by omega) (Nat.le_of_ble_eq_true rfl) dX7_lowerBound_16 ?_
  exact ro_iret hx hb hr hlocks rfl dX7_lowerBound_17

set_option maxRecDepth 100000 in
set_option maxHeartbeats 1000000 in
theorem c_X7_upperBound (l : Launch) (G : va_G) (cy : Nat → ClassId) (aX : Nat) (na tr sn : Nat → Nat) (hs : Int32) (hi sc : Nat) (ep fc : Int32) (ob : Nat) (σ : St) (j : Nat) (ho : Ok σ) (hj : j < nD σ) : RO l yX7_upperBound wsX7_upperBound { frames := 1, cells := 0, slots := 0, locals := 21 } (PB G cy [(aX, .inr (11, [.ref (na 0), .ref (tr 0), .ref (sn 0), .int hs, .ref hi, .ref sc, .int ep, .int fc, .ref ob])), (na 0, .inr (9, [.ref (na 1), .ref (na 2), .ref (na 3), .ref (na 4)])), (na 1, .inr (4, [.int (nI (nB σ)), .ref (na 5), .ref (na 6), .ref (na 7), .ref (na 8)])), (na 5, .inl (cy 2, 5, .inl (vB σ))), (na 6, .inl (cy 2, 5, .inl (hB σ))), (na 7, .inl (cy 3, 5, .inl (pB σ))), (na 8, .inl (cy 3, 5, .inl (mB σ))), (na 2, .inr (5, [.int (nI (nD σ)), .ref (na 9), .ref (na 10), .ref (na 11), .ref (na 12), .ref (na 13)])), (na 9, .inl (cy 2, 6, .inl (bD σ))), (na 10, .inl (cy 2, 6, .inl (lD σ))), (na 11, .inl (cy 2, 6, .inl (uD σ))), (na 12, .inl (cy 2, 6, .inl (qD σ))), (na 13, .inl (cy 3, 6, .inl (wD σ))), (na 3, .inr (6, [.int (nI (nE σ)), .ref (na 14), .ref (na 15), .ref (na 16)])), (na 14, .inl (cy 1, 10, .inl (kE σ))), (na 15, .inl (cy 2, 10, .inl (bE σ))), (na 16, .inl (cy 2, 10, .inl (lE σ))), (na 4, .inr (10, [.int (tT σ), .int (dT σ), .int (aT σ), .int (rT σ), .int (hT σ), .int (xT σ)]))]) [.ref aX, .int (nI j)] (some (.int (uD σ j))) := by
  refine RO.ofW (cc := cX7_upperBound) (maxL := 2) (ret := (some .int)) (by decide) rfl (Nat.le_of_ble_eq_true rfl) ?_
  intro p e s m below meth c S9 hr hlocks hPB ls hl
  obtain ⟨hx, hb, hml, hown, hts⟩ := id S9
  obtain ⟨hP, hK⟩ := hPB
  have hl : lv_has ls 2 [(0, .ref aX), (1, .int (nI j))] := hl
  have hi5 : ∀ w ∈ wsX10, w ∈ wsX7_upperBound := by decide +kernel
  have hi9 : ∀ w ∈ wsX50, w ∈ wsX7_upperBound := by decide +kernel
  have hi11 : ∀ w ∈ wsX70, w ∈ wsX7_upperBound := by decide +kernel
  have hf12 := hts (.fieldLink RX7 12 "BathLeague" "now" "LBathLeague$State;") (by decide +kernel)
  have hf232 := hts (.fieldLink RX7 232 "BathLeague$State" "ducks" "LBathLeague$Ducks;") (by decide +kernel)
  have hf248 := hts (.fieldLink RX7 248 "BathLeague$Ducks" "high" "[I") (by decide +kernel)
  have hN0 := ho.1
  have hM0 := ho.2.1
  have hE0 := ho.2.2.1
  refine lv_aload_n hx hb dX7_upperBound_0 rfl (lv_at hl 0 rfl) ?_
  refine lv_iload_n hx hb dX7_upperBound_1 rfl (lv_at hl 1 rfl) ?_
  refine c_roVv S9 (c_X7_requireDuck l G cy aX na tr sn hs hi sc ep fc ob σ j ho hj) (cwV 1 hts gX7_upperBound_X7_requireDuck rfl rfl rfl (by decide +kernel) ⟨Nat.le_of_ble_eq_true rfl, Nat.le_of_ble_eq_true rfl⟩) PB.blind (va_recv hK.1 hP (ci := 11) (q0 := 0) rfl rfl) (PB.at hK (m_Ppart hP [0, 1, 2, 3, 4, 5, 6, 7, 8, 9, 10, 11, 12, 13, 14, 15, 16, 17] rfl)) rfl hl.1 rfl (Nat.le_of_ble_eq_true rfl) ⟨Nat.zero_le _, Nat.zero_le _⟩ dX7_upperBound_2 ?_
  refine lv_aload_n hx hb dX7_upperBound_5 rfl (lv_at hl 0 rfl) ?_
  refine va_get (D := G) (ci := 11) (v := .ref (na 0)) (C := RX7) (T := TX7) (N := 9) hx hb hts hi11 hown hK.1 hP 0 rfl rfl 0 (by decide) hf12 (fun _ h9 => h9) rfl dX7_upperBound_6 ?_
  refine va_get (D := G) (ci := 9) (v := .ref (na 2)) (C := RX5) (T := TX5) (N := 4) hx hb hts hi9 hown hK.1 hP 1 rfl rfl 1 (by decide) hf232 (fun _ h9 => h9) rfl dX7_upperBound_9 ?_
  refine va_get (D := G) (ci := 5) (v := .ref (na 11)) (C := RX1) (T := TX1) (N := 6) hx hb hts hi5 hown hK.1 hP 7 rfl rfl 3 (by decide) hf248 (fun _ h9 => h9) rfl dX7_upperBound_12 ?_
  refine lv_iload_n hx hb dX7_upperBound_15 rfl (lv_at hl 1 rfl) ?_
  refine m_iald hx hb hK hP 10 (k := j) rfl rfl (by omega) (Nat.le_of_ble_eq_true rfl) dX7_upperBound_16 ?_
  exact ro_iret hx hb hr hlocks rfl dX7_upperBound_17

set_option maxRecDepth 100000 in
set_option maxHeartbeats 1000000 in
theorem c_X7_quacks (l : Launch) (G : va_G) (cy : Nat → ClassId) (aX : Nat) (na tr sn : Nat → Nat) (hs : Int32) (hi sc : Nat) (ep fc : Int32) (ob : Nat) (σ : St) (j : Nat) (ho : Ok σ) (hj : j < nD σ) : RO l yX7_quacks wsX7_quacks { frames := 1, cells := 0, slots := 0, locals := 21 } (PB G cy [(aX, .inr (11, [.ref (na 0), .ref (tr 0), .ref (sn 0), .int hs, .ref hi, .ref sc, .int ep, .int fc, .ref ob])), (na 0, .inr (9, [.ref (na 1), .ref (na 2), .ref (na 3), .ref (na 4)])), (na 1, .inr (4, [.int (nI (nB σ)), .ref (na 5), .ref (na 6), .ref (na 7), .ref (na 8)])), (na 5, .inl (cy 2, 5, .inl (vB σ))), (na 6, .inl (cy 2, 5, .inl (hB σ))), (na 7, .inl (cy 3, 5, .inl (pB σ))), (na 8, .inl (cy 3, 5, .inl (mB σ))), (na 2, .inr (5, [.int (nI (nD σ)), .ref (na 9), .ref (na 10), .ref (na 11), .ref (na 12), .ref (na 13)])), (na 9, .inl (cy 2, 6, .inl (bD σ))), (na 10, .inl (cy 2, 6, .inl (lD σ))), (na 11, .inl (cy 2, 6, .inl (uD σ))), (na 12, .inl (cy 2, 6, .inl (qD σ))), (na 13, .inl (cy 3, 6, .inl (wD σ))), (na 3, .inr (6, [.int (nI (nE σ)), .ref (na 14), .ref (na 15), .ref (na 16)])), (na 14, .inl (cy 1, 10, .inl (kE σ))), (na 15, .inl (cy 2, 10, .inl (bE σ))), (na 16, .inl (cy 2, 10, .inl (lE σ))), (na 4, .inr (10, [.int (tT σ), .int (dT σ), .int (aT σ), .int (rT σ), .int (hT σ), .int (xT σ)]))]) [.ref aX, .int (nI j)] (some (.int (qD σ j))) := by
  refine RO.ofW (cc := cX7_quacks) (maxL := 2) (ret := (some .int)) (by decide) rfl (Nat.le_of_ble_eq_true rfl) ?_
  intro p e s m below meth c S9 hr hlocks hPB ls hl
  obtain ⟨hx, hb, hml, hown, hts⟩ := id S9
  obtain ⟨hP, hK⟩ := hPB
  have hl : lv_has ls 2 [(0, .ref aX), (1, .int (nI j))] := hl
  have hi5 : ∀ w ∈ wsX10, w ∈ wsX7_quacks := by decide +kernel
  have hi9 : ∀ w ∈ wsX50, w ∈ wsX7_quacks := by decide +kernel
  have hi11 : ∀ w ∈ wsX70, w ∈ wsX7_quacks := by decide +kernel
  have hf12 := hts (.fieldLink RX7 12 "BathLeague" "now" "LBathLeague$State;") (by decide +kernel)
  have hf232 := hts (.fieldLink RX7 232 "BathLeague$State" "ducks" "LBathLeague$Ducks;") (by decide +kernel)
  have hf255 := hts (.fieldLink RX7 255 "BathLeague$Ducks" "quackCount" "[I") (by decide +kernel)
  have hN0 := ho.1
  have hM0 := ho.2.1
  have hE0 := ho.2.2.1
  refine lv_aload_n hx hb dX7_quacks_0 rfl (lv_at hl 0 rfl) ?_
  refine lv_iload_n hx hb dX7_quacks_1 rfl (lv_at hl 1 rfl) ?_
  refine c_roVv S9 (c_X7_requireDuck l G cy aX na tr sn hs hi sc ep fc ob σ j ho hj) (cwV 1 hts gX7_quacks_X7_requireDuck rfl rfl rfl (by decide +kernel) ⟨Nat.le_of_ble_eq_true rfl, Nat.le_of_ble_eq_true rfl⟩) PB.blind (va_recv hK.1 hP (ci := 11) (q0 := 0) rfl rfl) (PB.at hK (m_Ppart hP [0, 1, 2, 3, 4, 5, 6, 7, 8, 9, 10, 11, 12, 13, 14, 15, 16, 17] rfl)) rfl hl.1 rfl (Nat.le_of_ble_eq_true rfl) ⟨Nat.zero_le _, Nat.zero_le _⟩ dX7_quacks_2 ?_
  refine lv_aload_n hx hb dX7_quacks_5 rfl (lv_at hl 0 rfl) ?_
  refine va_get (D := G) (ci := 11) (v := .ref (na 0)) (C := RX7) (T := TX7) (N := 9) hx hb hts hi11 hown hK.1 hP 0 rfl rfl 0 (by decide) hf12 (fun _ h9 => h9) rfl dX7_quacks_6 ?_
  refine va_get (D := G) (ci := 9) (v := .ref (na 2)) (C := RX5) (T := TX5) (N := 4) hx hb hts hi9 hown hK.1 hP 1 rfl rfl 1 (by decide) hf232 (fun _ h9 => h9) rfl dX7_quacks_9 ?_
  refine va_get (D := G) (ci := 5) (v := .ref (na 12)) (C := RX1) (T := TX1) (N := 6) hx hb hts hi5 hown hK.1 hP 7 rfl rfl 4 (by decide) hf255 (fun _ h9 => h9) rfl dX7_quacks_12 ?_
  refine lv_iload_n hx hb dX7_quacks_15 rfl (lv_at hl 1 rfl) ?_
  refine m_iald hx hb hK hP 11 (k := j) rfl rfl (by omega) (Nat.le_of_ble_eq_true rfl) dX7_quacks_16 ?_
  exact ro_iret hx hb hr hlocks rfl dX7_quacks_17

set_option maxRecDepth 100000 in
set_option maxHeartbeats 1000000 in
theorem c_X7_isContent (l : Launch) (G : va_G) (cy : Nat → ClassId) (aX : Nat) (na tr sn : Nat → Nat) (hs : Int32) (hi sc : Nat) (ep fc : Int32) (ob : Nat) (σ : St) (j : Nat) (ho : Ok σ) (hj : j < nD σ) : RO l yX7_isContent wsX7_isContent { frames := 2, cells := 0, slots := 0, locals := 45 } (PB G cy [(aX, .inr (11, [.ref (na 0), .ref (tr 0), .ref (sn 0), .int hs, .ref hi, .ref sc, .int ep, .int fc, .ref ob])), (na 0, .inr (9, [.ref (na 1), .ref (na 2), .ref (na 3), .ref (na 4)])), (na 1, .inr (4, [.int (nI (nB σ)), .ref (na 5), .ref (na 6), .ref (na 7), .ref (na 8)])), (na 5, .inl (cy 2, 5, .inl (vB σ))), (na 6, .inl (cy 2, 5, .inl (hB σ))), (na 7, .inl (cy 3, 5, .inl (pB σ))), (na 8, .inl (cy 3, 5, .inl (mB σ))), (na 2, .inr (5, [.int (nI (nD σ)), .ref (na 9), .ref (na 10), .ref (na 11), .ref (na 12), .ref (na 13)])), (na 9, .inl (cy 2, 6, .inl (bD σ))), (na 10, .inl (cy 2, 6, .inl (lD σ))), (na 11, .inl (cy 2, 6, .inl (uD σ))), (na 12, .inl (cy 2, 6, .inl (qD σ))), (na 13, .inl (cy 3, 6, .inl (wD σ))), (na 3, .inr (6, [.int (nI (nE σ)), .ref (na 14), .ref (na 15), .ref (na 16)])), (na 14, .inl (cy 1, 10, .inl (kE σ))), (na 15, .inl (cy 2, 10, .inl (bE σ))), (na 16, .inl (cy 2, 10, .inl (lE σ))), (na 4, .inr (10, [.int (tT σ), .int (dT σ), .int (aT σ), .int (rT σ), .int (hT σ), .int (xT σ)]))]) [.ref aX, .int (nI j)] (some (.int (if plS σ j = true then 1 else 0))) := by
  refine RO.ofW (cc := cX7_isContent) (maxL := 2) (ret := (some .boolean)) (by decide) rfl (Nat.le_of_ble_eq_true rfl) ?_
  intro p e s m below meth c S9 hr hlocks hPB ls hl
  obtain ⟨hx, hb, hml, hown, hts⟩ := id S9
  obtain ⟨hP, hK⟩ := hPB
  have hl : lv_has ls 2 [(0, .ref aX), (1, .int (nI j))] := hl
  have hi9 : ∀ w ∈ wsX50, w ∈ wsX7_isContent := by decide +kernel
  have hi11 : ∀ w ∈ wsX70, w ∈ wsX7_isContent := by decide +kernel
  have hf12 := hts (.fieldLink RX7 12 "BathLeague" "now" "LBathLeague$State;") (by decide +kernel)
  have hf77 := hts (.fieldLink RX7 77 "BathLeague$State" "baths" "LBathLeague$Baths;") (by decide +kernel)
  have hf232 := hts (.fieldLink RX7 232 "BathLeague$State" "ducks" "LBathLeague$Ducks;") (by decide +kernel)
  have hN0 := ho.1
  have hM0 := ho.2.1
  have hE0 := ho.2.2.1
  refine lv_aload_n hx hb dX7_isContent_0 rfl (lv_at hl 0 rfl) ?_
  refine lv_iload_n hx hb dX7_isContent_1 rfl (lv_at hl 1 rfl) ?_
  refine c_roVv S9 (c_X7_requireDuck l G cy aX na tr sn hs hi sc ep fc ob σ j ho hj) (cwV 1 hts gX7_isContent_X7_requireDuck rfl rfl rfl (by decide +kernel) ⟨Nat.le_of_ble_eq_true rfl, Nat.le_of_ble_eq_true rfl⟩) PB.blind (va_recv hK.1 hP (ci := 11) (q0 := 0) rfl rfl) (PB.at hK (m_Ppart hP [0, 1, 2, 3, 4, 5, 6, 7, 8, 9, 10, 11, 12, 13, 14, 15, 16, 17] rfl)) rfl hl.1 rfl (Nat.le_of_ble_eq_true rfl) ⟨Nat.zero_le _, Nat.zero_le _⟩ dX7_isContent_2 ?_
  refine lv_aload_n hx hb dX7_isContent_5 rfl (lv_at hl 0 rfl) ?_
  refine va_get (D := G) (ci := 11) (v := .ref (na 0)) (C := RX7) (T := TX7) (N := 9) hx hb hts hi11 hown hK.1 hP 0 rfl rfl 0 (by decide) hf12 (fun _ h9 => h9) rfl dX7_isContent_6 ?_
  refine va_get (D := G) (ci := 9) (v := .ref (na 2)) (C := RX5) (T := TX5) (N := 4) hx hb hts hi9 hown hK.1 hP 1 rfl rfl 1 (by decide) hf232 (fun _ h9 => h9) rfl dX7_isContent_9 ?_
  refine lv_iload_n hx hb dX7_isContent_12 rfl (lv_at hl 1 rfl) ?_
  refine lv_aload_n hx hb dX7_isContent_13 rfl (lv_at hl 0 rfl) ?_
  refine va_get (D := G) (ci := 11) (v := .ref (na 0)) (C := RX7) (T := TX7) (N := 9) hx hb hts hi11 hown hK.1 hP 0 rfl rfl 0 (by decide) hf12 (fun _ h9 => h9) rfl dX7_isContent_14 ?_
  refine va_get (D := G) (ci := 9) (v := .ref (na 1)) (C := RX5) (T := TX5) (N := 4) hx hb hts hi9 hown hK.1 hP 1 rfl rfl 0 (by decide) hf77 (fun _ h9 => h9) rfl dX7_isContent_17 ?_
  refine c_roVi S9 (c_X1_isPleased l G cy (na 2) (na 9) (na 10) (na 11) (na 12) (na 13) (nD σ) (bD σ) (lD σ) (uD σ) (qD σ) (wD σ) (na 1) (na 5) (na 6) (na 7) (na 8) (nB σ) (vB σ) (hB σ) (pB σ) (mB σ) j (by omega) (ho.d j hj)) (cwV 2 hts gX7_isContent_X1_isPleased rfl rfl rfl (by decide +kernel) ⟨Nat.le_of_ble_eq_true rfl, Nat.le_of_ble_eq_true rfl⟩) PB.blind (va_recv hK.1 hP (ci := 5) (q0 := 7) rfl rfl) (PB.at hK (m_Ppart hP [7, 8, 9, 10, 11, 12, 2, 3, 4, 5, 6] rfl)) rfl hl.1 rfl (Nat.le_of_ble_eq_true rfl) ⟨Nat.zero_le _, Nat.zero_le _⟩ dX7_isContent_20 ?_
  exact ro_zret hx hb hr hlocks (by first | rfl | (split <;> rfl)) rfl dX7_isContent_23

set_option maxRecDepth 100000 in
set_option maxHeartbeats 1000000 in
theorem c_X7_eventBath (l : Launch) (G : va_G) (cy : Nat → ClassId) (aX : Nat) (na tr sn : Nat → Nat) (hs : Int32) (hi sc : Nat) (ep fc : Int32) (ob : Nat) (σ : St) (j : Nat) (ho : Ok σ) (hj : j < nE σ) : RO l yX7_eventBath wsX7_eventBath { frames := 1, cells := 0, slots := 0, locals := 21 } (PB G cy [(aX, .inr (11, [.ref (na 0), .ref (tr 0), .ref (sn 0), .int hs, .ref hi, .ref sc, .int ep, .int fc, .ref ob])), (na 0, .inr (9, [.ref (na 1), .ref (na 2), .ref (na 3), .ref (na 4)])), (na 1, .inr (4, [.int (nI (nB σ)), .ref (na 5), .ref (na 6), .ref (na 7), .ref (na 8)])), (na 5, .inl (cy 2, 5, .inl (vB σ))), (na 6, .inl (cy 2, 5, .inl (hB σ))), (na 7, .inl (cy 3, 5, .inl (pB σ))), (na 8, .inl (cy 3, 5, .inl (mB σ))), (na 2, .inr (5, [.int (nI (nD σ)), .ref (na 9), .ref (na 10), .ref (na 11), .ref (na 12), .ref (na 13)])), (na 9, .inl (cy 2, 6, .inl (bD σ))), (na 10, .inl (cy 2, 6, .inl (lD σ))), (na 11, .inl (cy 2, 6, .inl (uD σ))), (na 12, .inl (cy 2, 6, .inl (qD σ))), (na 13, .inl (cy 3, 6, .inl (wD σ))), (na 3, .inr (6, [.int (nI (nE σ)), .ref (na 14), .ref (na 15), .ref (na 16)])), (na 14, .inl (cy 1, 10, .inl (kE σ))), (na 15, .inl (cy 2, 10, .inl (bE σ))), (na 16, .inl (cy 2, 10, .inl (lE σ))), (na 4, .inr (10, [.int (tT σ), .int (dT σ), .int (aT σ), .int (rT σ), .int (hT σ), .int (xT σ)]))]) [.ref aX, .int (nI j)] (some (.int (bE σ j))) := by
  refine RO.ofW (cc := cX7_eventBath) (maxL := 2) (ret := (some .int)) (by decide) rfl (Nat.le_of_ble_eq_true rfl) ?_
  intro p e s m below meth c S9 hr hlocks hPB ls hl
  obtain ⟨hx, hb, hml, hown, hts⟩ := id S9
  obtain ⟨hP, hK⟩ := hPB
  have hl : lv_has ls 2 [(0, .ref aX), (1, .int (nI j))] := hl
  have hi6 : ∀ w ∈ wsX20, w ∈ wsX7_eventBath := by decide +kernel
  have hi9 : ∀ w ∈ wsX50, w ∈ wsX7_eventBath := by decide +kernel
  have hi11 : ∀ w ∈ wsX70, w ∈ wsX7_eventBath := by decide +kernel
  have hf12 := hts (.fieldLink RX7 12 "BathLeague" "now" "LBathLeague$State;") (by decide +kernel)
  have hf261 := hts (.fieldLink RX7 261 "BathLeague$State" "events" "LBathLeague$Events;") (by decide +kernel)
  have hf265 := hts (.fieldLink RX7 265 "BathLeague$Events" "count" "I") (by decide +kernel)
  have hf272 := hts (.fieldLink RX7 272 "BathLeague$Events" "bath" "[I") (by decide +kernel)
  have hN0 := ho.1
  have hM0 := ho.2.1
  have hE0 := ho.2.2.1
  refine lv_iload_n hx hb dX7_eventBath_0 rfl (lv_at hl 1 rfl) ?_
  refine lv_aload_n hx hb dX7_eventBath_1 rfl (lv_at hl 0 rfl) ?_
  refine va_get (D := G) (ci := 11) (v := .ref (na 0)) (C := RX7) (T := TX7) (N := 9) hx hb hts hi11 hown hK.1 hP 0 rfl rfl 0 (by decide) hf12 (fun _ h9 => h9) rfl dX7_eventBath_2 ?_
  refine va_get (D := G) (ci := 9) (v := .ref (na 3)) (C := RX5) (T := TX5) (N := 4) hx hb hts hi9 hown hK.1 hP 1 rfl rfl 2 (by decide) hf261 (fun _ h9 => h9) rfl dX7_eventBath_5 ?_
  refine va_get (D := G) (ci := 6) (v := .int (nI (nE σ))) (C := RX2) (T := TX2) (N := 4) hx hb hts hi6 hown hK.1 hP 13 rfl rfl 0 (by decide) hf265 (fun _ h9 => h9) rfl dX7_eventBath_8 ?_
  refine c_roSv S9 (c_X7_requireElement l G cy j (nE σ) hj (by omega)) (va_cwS 2 hts gX7_eventBath_X7_requireElement rfl rfl rfl (by decide +kernel) ⟨Nat.le_of_ble_eq_true rfl, Nat.le_of_ble_eq_true rfl⟩) PB.blind (PB.at hK (m_Ppart hP [] rfl)) rfl hl.1 rfl (Nat.le_of_ble_eq_true rfl) ⟨Nat.zero_le _, Nat.zero_le _⟩ dX7_eventBath_11 ?_
  refine lv_aload_n hx hb dX7_eventBath_14 rfl (lv_at hl 0 rfl) ?_
  refine va_get (D := G) (ci := 11) (v := .ref (na 0)) (C := RX7) (T := TX7) (N := 9) hx hb hts hi11 hown hK.1 hP 0 rfl rfl 0 (by decide) hf12 (fun _ h9 => h9) rfl dX7_eventBath_15 ?_
  refine va_get (D := G) (ci := 9) (v := .ref (na 3)) (C := RX5) (T := TX5) (N := 4) hx hb hts hi9 hown hK.1 hP 1 rfl rfl 2 (by decide) hf261 (fun _ h9 => h9) rfl dX7_eventBath_18 ?_
  refine va_get (D := G) (ci := 6) (v := .ref (na 15)) (C := RX2) (T := TX2) (N := 4) hx hb hts hi6 hown hK.1 hP 13 rfl rfl 2 (by decide) hf272 (fun _ h9 => h9) rfl dX7_eventBath_21 ?_
  refine lv_iload_n hx hb dX7_eventBath_24 rfl (lv_at hl 1 rfl) ?_
  refine m_iald hx hb hK hP 15 (k := j) rfl rfl (by omega) (Nat.le_of_ble_eq_true rfl) dX7_eventBath_25 ?_
  exact ro_iret hx hb hr hlocks rfl dX7_eventBath_26

set_option maxRecDepth 100000 in
set_option maxHeartbeats 1000000 in
theorem c_X7_eventKind (l : Launch) (G : va_G) (cy : Nat → ClassId) (aX : Nat) (na tr sn : Nat → Nat) (hs : Int32) (hi sc : Nat) (ep fc : Int32) (ob : Nat) (σ : St) (j : Nat) (ho : Ok σ) (hj : j < nE σ) : RO l yX7_eventKind wsX7_eventKind { frames := 1, cells := 0, slots := 0, locals := 21 } (PB G cy [(aX, .inr (11, [.ref (na 0), .ref (tr 0), .ref (sn 0), .int hs, .ref hi, .ref sc, .int ep, .int fc, .ref ob])), (na 0, .inr (9, [.ref (na 1), .ref (na 2), .ref (na 3), .ref (na 4)])), (na 1, .inr (4, [.int (nI (nB σ)), .ref (na 5), .ref (na 6), .ref (na 7), .ref (na 8)])), (na 5, .inl (cy 2, 5, .inl (vB σ))), (na 6, .inl (cy 2, 5, .inl (hB σ))), (na 7, .inl (cy 3, 5, .inl (pB σ))), (na 8, .inl (cy 3, 5, .inl (mB σ))), (na 2, .inr (5, [.int (nI (nD σ)), .ref (na 9), .ref (na 10), .ref (na 11), .ref (na 12), .ref (na 13)])), (na 9, .inl (cy 2, 6, .inl (bD σ))), (na 10, .inl (cy 2, 6, .inl (lD σ))), (na 11, .inl (cy 2, 6, .inl (uD σ))), (na 12, .inl (cy 2, 6, .inl (qD σ))), (na 13, .inl (cy 3, 6, .inl (wD σ))), (na 3, .inr (6, [.int (nI (nE σ)), .ref (na 14), .ref (na 15), .ref (na 16)])), (na 14, .inl (cy 1, 10, .inl (kE σ))), (na 15, .inl (cy 2, 10, .inl (bE σ))), (na 16, .inl (cy 2, 10, .inl (lE σ))), (na 4, .inr (10, [.int (tT σ), .int (dT σ), .int (aT σ), .int (rT σ), .int (hT σ), .int (xT σ)]))]) [.ref aX, .int (nI j)] (some (.int (kE σ j))) := by
  refine RO.ofW (cc := cX7_eventKind) (maxL := 2) (ret := (some .char)) (by decide) rfl (Nat.le_of_ble_eq_true rfl) ?_
  intro p e s m below meth c S9 hr hlocks hPB ls hl
  obtain ⟨hx, hb, hml, hown, hts⟩ := id S9
  obtain ⟨hP, hK⟩ := hPB
  have hl : lv_has ls 2 [(0, .ref aX), (1, .int (nI j))] := hl
  have hi6 : ∀ w ∈ wsX20, w ∈ wsX7_eventKind := by decide +kernel
  have hi9 : ∀ w ∈ wsX50, w ∈ wsX7_eventKind := by decide +kernel
  have hi11 : ∀ w ∈ wsX70, w ∈ wsX7_eventKind := by decide +kernel
  have hf12 := hts (.fieldLink RX7 12 "BathLeague" "now" "LBathLeague$State;") (by decide +kernel)
  have hf261 := hts (.fieldLink RX7 261 "BathLeague$State" "events" "LBathLeague$Events;") (by decide +kernel)
  have hf265 := hts (.fieldLink RX7 265 "BathLeague$Events" "count" "I") (by decide +kernel)
  have hf268 := hts (.fieldLink RX7 268 "BathLeague$Events" "kind" "[C") (by decide +kernel)
  have hN0 := ho.1
  have hM0 := ho.2.1
  have hE0 := ho.2.2.1
  refine lv_iload_n hx hb dX7_eventKind_0 rfl (lv_at hl 1 rfl) ?_
  refine lv_aload_n hx hb dX7_eventKind_1 rfl (lv_at hl 0 rfl) ?_
  refine va_get (D := G) (ci := 11) (v := .ref (na 0)) (C := RX7) (T := TX7) (N := 9) hx hb hts hi11 hown hK.1 hP 0 rfl rfl 0 (by decide) hf12 (fun _ h9 => h9) rfl dX7_eventKind_2 ?_
  refine va_get (D := G) (ci := 9) (v := .ref (na 3)) (C := RX5) (T := TX5) (N := 4) hx hb hts hi9 hown hK.1 hP 1 rfl rfl 2 (by decide) hf261 (fun _ h9 => h9) rfl dX7_eventKind_5 ?_
  refine va_get (D := G) (ci := 6) (v := .int (nI (nE σ))) (C := RX2) (T := TX2) (N := 4) hx hb hts hi6 hown hK.1 hP 13 rfl rfl 0 (by decide) hf265 (fun _ h9 => h9) rfl dX7_eventKind_8 ?_
  refine c_roSv S9 (c_X7_requireElement l G cy j (nE σ) hj (by omega)) (va_cwS 2 hts gX7_eventKind_X7_requireElement rfl rfl rfl (by decide +kernel) ⟨Nat.le_of_ble_eq_true rfl, Nat.le_of_ble_eq_true rfl⟩) PB.blind (PB.at hK (m_Ppart hP [] rfl)) rfl hl.1 rfl (Nat.le_of_ble_eq_true rfl) ⟨Nat.zero_le _, Nat.zero_le _⟩ dX7_eventKind_11 ?_
  refine lv_aload_n hx hb dX7_eventKind_14 rfl (lv_at hl 0 rfl) ?_
  refine va_get (D := G) (ci := 11) (v := .ref (na 0)) (C := RX7) (T := TX7) (N := 9) hx hb hts hi11 hown hK.1 hP 0 rfl rfl 0 (by decide) hf12 (fun _ h9 => h9) rfl dX7_eventKind_15 ?_
  refine va_get (D := G) (ci := 9) (v := .ref (na 3)) (C := RX5) (T := TX5) (N := 4) hx hb hts hi9 hown hK.1 hP 1 rfl rfl 2 (by decide) hf261 (fun _ h9 => h9) rfl dX7_eventKind_18 ?_
  refine va_get (D := G) (ci := 6) (v := .ref (na 14)) (C := RX2) (T := TX2) (N := 4) hx hb hts hi6 hown hK.1 hP 13 rfl rfl 1 (by decide) hf268 (fun _ h9 => h9) rfl dX7_eventKind_21 ?_
  refine lv_iload_n hx hb dX7_eventKind_24 rfl (lv_at hl 1 rfl) ?_
  refine m_cald hx hb hK hP 14 (k := j) rfl rfl (by omega) (Nat.le_of_ble_eq_true rfl) dX7_eventKind_25 ?_
  exact ro_zret hx hb hr hlocks (congrArg Value.int (ho.2.2.2.2.2.2.2 j (by omega))) rfl dX7_eventKind_26

set_option maxRecDepth 100000 in
set_option maxHeartbeats 1000000 in
theorem c_X7_eventLitres (l : Launch) (G : va_G) (cy : Nat → ClassId) (aX : Nat) (na tr sn : Nat → Nat) (hs : Int32) (hi sc : Nat) (ep fc : Int32) (ob : Nat) (σ : St) (j : Nat) (ho : Ok σ) (hj : j < nE σ) (hl7 : ¬ lE σ j = -1) : RO l yX7_eventLitres wsX7_eventLitres { frames := 1, cells := 0, slots := 0, locals := 21 } (PB G cy [(aX, .inr (11, [.ref (na 0), .ref (tr 0), .ref (sn 0), .int hs, .ref hi, .ref sc, .int ep, .int fc, .ref ob])), (na 0, .inr (9, [.ref (na 1), .ref (na 2), .ref (na 3), .ref (na 4)])), (na 1, .inr (4, [.int (nI (nB σ)), .ref (na 5), .ref (na 6), .ref (na 7), .ref (na 8)])), (na 5, .inl (cy 2, 5, .inl (vB σ))), (na 6, .inl (cy 2, 5, .inl (hB σ))), (na 7, .inl (cy 3, 5, .inl (pB σ))), (na 8, .inl (cy 3, 5, .inl (mB σ))), (na 2, .inr (5, [.int (nI (nD σ)), .ref (na 9), .ref (na 10), .ref (na 11), .ref (na 12), .ref (na 13)])), (na 9, .inl (cy 2, 6, .inl (bD σ))), (na 10, .inl (cy 2, 6, .inl (lD σ))), (na 11, .inl (cy 2, 6, .inl (uD σ))), (na 12, .inl (cy 2, 6, .inl (qD σ))), (na 13, .inl (cy 3, 6, .inl (wD σ))), (na 3, .inr (6, [.int (nI (nE σ)), .ref (na 14), .ref (na 15), .ref (na 16)])), (na 14, .inl (cy 1, 10, .inl (kE σ))), (na 15, .inl (cy 2, 10, .inl (bE σ))), (na 16, .inl (cy 2, 10, .inl (lE σ))), (na 4, .inr (10, [.int (tT σ), .int (dT σ), .int (aT σ), .int (rT σ), .int (hT σ), .int (xT σ)]))]) [.ref aX, .int (nI j)] (some (.int (lE σ j))) := by
  refine RO.ofW (cc := cX7_eventLitres) (maxL := 2) (ret := (some .int)) (by decide) rfl (Nat.le_of_ble_eq_true rfl) ?_
  intro p e s m below meth c S9 hr hlocks hPB ls hl
  obtain ⟨hx, hb, hml, hown, hts⟩ := id S9
  obtain ⟨hP, hK⟩ := hPB
  have hl : lv_has ls 2 [(0, .ref aX), (1, .int (nI j))] := hl
  have hi6 : ∀ w ∈ wsX20, w ∈ wsX7_eventLitres := by decide +kernel
  have hi9 : ∀ w ∈ wsX50, w ∈ wsX7_eventLitres := by decide +kernel
  have hi11 : ∀ w ∈ wsX70, w ∈ wsX7_eventLitres := by decide +kernel
  have hf12 := hts (.fieldLink RX7 12 "BathLeague" "now" "LBathLeague$State;") (by decide +kernel)
  have hf261 := hts (.fieldLink RX7 261 "BathLeague$State" "events" "LBathLeague$Events;") (by decide +kernel)
  have hf265 := hts (.fieldLink RX7 265 "BathLeague$Events" "count" "I") (by decide +kernel)
  have hf273 := hts (.fieldLink RX7 273 "BathLeague$Events" "litres" "[I") (by decide +kernel)
  have hN0 := ho.1
  have hM0 := ho.2.1
  have hE0 := ho.2.2.1
  refine lv_iload_n hx hb dX7_eventLitres_0 rfl (lv_at hl 1 rfl) ?_
  refine lv_aload_n hx hb dX7_eventLitres_1 rfl (lv_at hl 0 rfl) ?_
  refine va_get (D := G) (ci := 11) (v := .ref (na 0)) (C := RX7) (T := TX7) (N := 9) hx hb hts hi11 hown hK.1 hP 0 rfl rfl 0 (by decide) hf12 (fun _ h9 => h9) rfl dX7_eventLitres_2 ?_
  refine va_get (D := G) (ci := 9) (v := .ref (na 3)) (C := RX5) (T := TX5) (N := 4) hx hb hts hi9 hown hK.1 hP 1 rfl rfl 2 (by decide) hf261 (fun _ h9 => h9) rfl dX7_eventLitres_5 ?_
  refine va_get (D := G) (ci := 6) (v := .int (nI (nE σ))) (C := RX2) (T := TX2) (N := 4) hx hb hts hi6 hown hK.1 hP 13 rfl rfl 0 (by decide) hf265 (fun _ h9 => h9) rfl dX7_eventLitres_8 ?_
  refine c_roSv S9 (c_X7_requireElement l G cy j (nE σ) hj (by omega)) (va_cwS 2 hts gX7_eventLitres_X7_requireElement rfl rfl rfl (by decide +kernel) ⟨Nat.le_of_ble_eq_true rfl, Nat.le_of_ble_eq_true rfl⟩) PB.blind (PB.at hK (m_Ppart hP [] rfl)) rfl hl.1 rfl (Nat.le_of_ble_eq_true rfl) ⟨Nat.zero_le _, Nat.zero_le _⟩ dX7_eventLitres_11 ?_
  refine lv_aload_n hx hb dX7_eventLitres_14 rfl (lv_at hl 0 rfl) ?_
  refine va_get (D := G) (ci := 11) (v := .ref (na 0)) (C := RX7) (T := TX7) (N := 9) hx hb hts hi11 hown hK.1 hP 0 rfl rfl 0 (by decide) hf12 (fun _ h9 => h9) rfl dX7_eventLitres_15 ?_
  refine va_get (D := G) (ci := 9) (v := .ref (na 3)) (C := RX5) (T := TX5) (N := 4) hx hb hts hi9 hown hK.1 hP 1 rfl rfl 2 (by decide) hf261 (fun _ h9 => h9) rfl dX7_eventLitres_18 ?_
  refine va_get (D := G) (ci := 6) (v := .ref (na 16)) (C := RX2) (T := TX2) (N := 4) hx hb hts hi6 hown hK.1 hP 13 rfl rfl 3 (by decide) hf273 (fun _ h9 => h9) rfl dX7_eventLitres_21 ?_
  refine lv_iload_n hx hb dX7_eventLitres_24 rfl (lv_at hl 1 rfl) ?_
  refine m_iald hx hb hK hP 16 (k := j) rfl rfl (by omega) (Nat.le_of_ble_eq_true rfl) dX7_eventLitres_25 ?_
  refine lv_iconst (v := (-1)) hx hb dX7_eventLitres_26 (by decide) ?_
  refine lv_icmp_ne (tgt := 41) hx hb dX7_eventLitres_27 (by decide) (fun c_1 => ?_) (fun c_1 => ?_)
  · refine lv_aload_n hx hb dX7_eventLitres_41 rfl (lv_at hl 0 rfl) ?_
    refine va_get (D := G) (ci := 11) (v := .ref (na 0)) (C := RX7) (T := TX7) (N := 9) hx hb hts hi11 hown hK.1 hP 0 rfl rfl 0 (by decide) hf12 (fun _ h9 => h9) rfl dX7_eventLitres_42 ?_
    refine va_get (D := G) (ci := 9) (v := .ref (na 3)) (C := RX5) (T := TX5) (N := 4) hx hb hts hi9 hown hK.1 hP 1 rfl rfl 2 (by decide) hf261 (fun _ h9 => h9) rfl dX7_eventLitres_45 ?_
    refine va_get (D := G) (ci := 6) (v := .ref (na 16)) (C := RX2) (T := TX2) (N := 4) hx hb hts hi6 hown hK.1 hP 13 rfl rfl 3 (by decide) hf273 (fun _ h9 => h9) rfl dX7_eventLitres_48 ?_
    refine lv_iload_n hx hb dX7_eventLitres_51 rfl (lv_at hl 1 rfl) ?_
    refine m_iald hx hb hK hP 16 (k := j) rfl rfl (by omega) (Nat.le_of_ble_eq_true rfl) dX7_eventLitres_52 ?_
    exact ro_iret hx hb hr hlocks rfl dX7_eventLitres_53
  · exact absurd c_1 hl7

set_option maxRecDepth 100000 in
set_option maxHeartbeats 1000000 in
theorem c_X7_warmestMember (l : Launch) (G : va_G) (cy : Nat → ClassId) (aX : Nat) (na tr sn : Nat → Nat) (hs : Int32) (hi sc : Nat) (ep fc : Int32) (ob : Nat) (σ : St) (j : Nat) (ho : Ok σ) (hO : hotO (vB σ) (hB σ) (mB σ) (nB σ) = some j) : RO l yX7_warmestMember wsX7_warmestMember { frames := 2, cells := 0, slots := 0, locals := 44 } (PB G cy [(aX, .inr (11, [.ref (na 0), .ref (tr 0), .ref (sn 0), .int hs, .ref hi, .ref sc, .int ep, .int fc, .ref ob])), (na 0, .inr (9, [.ref (na 1), .ref (na 2), .ref (na 3), .ref (na 4)])), (na 1, .inr (4, [.int (nI (nB σ)), .ref (na 5), .ref (na 6), .ref (na 7), .ref (na 8)])), (na 5, .inl (cy 2, 5, .inl (vB σ))), (na 6, .inl (cy 2, 5, .inl (hB σ))), (na 7, .inl (cy 3, 5, .inl (pB σ))), (na 8, .inl (cy 3, 5, .inl (mB σ))), (na 2, .inr (5, [.int (nI (nD σ)), .ref (na 9), .ref (na 10), .ref (na 11), .ref (na 12), .ref (na 13)])), (na 9, .inl (cy 2, 6, .inl (bD σ))), (na 10, .inl (cy 2, 6, .inl (lD σ))), (na 11, .inl (cy 2, 6, .inl (uD σ))), (na 12, .inl (cy 2, 6, .inl (qD σ))), (na 13, .inl (cy 3, 6, .inl (wD σ))), (na 3, .inr (6, [.int (nI (nE σ)), .ref (na 14), .ref (na 15), .ref (na 16)])), (na 14, .inl (cy 1, 10, .inl (kE σ))), (na 15, .inl (cy 2, 10, .inl (bE σ))), (na 16, .inl (cy 2, 10, .inl (lE σ))), (na 4, .inr (10, [.int (tT σ), .int (dT σ), .int (aT σ), .int (rT σ), .int (hT σ), .int (xT σ)]))]) [.ref aX] (some (.int (nI j))) := by
  refine RO.ofW (cc := cX7_warmestMember) (maxL := 2) (ret := (some .int)) (by decide) rfl (Nat.le_of_ble_eq_true rfl) ?_
  intro p e s m below meth c S9 hr hlocks hPB ls hl
  obtain ⟨hx, hb, hml, hown, hts⟩ := id S9
  obtain ⟨hP, hK⟩ := hPB
  have hl : lv_has ls 2 [(0, .ref aX)] := hl
  have hi9 : ∀ w ∈ wsX50, w ∈ wsX7_warmestMember := by decide +kernel
  have hi11 : ∀ w ∈ wsX70, w ∈ wsX7_warmestMember := by decide +kernel
  have hf12 := hts (.fieldLink RX7 12 "BathLeague" "now" "LBathLeague$State;") (by decide +kernel)
  have hf77 := hts (.fieldLink RX7 77 "BathLeague$State" "baths" "LBathLeague$Baths;") (by decide +kernel)
  have hN0 := ho.1
  have hM0 := ho.2.1
  have hE0 := ho.2.2.1
  refine lv_aload_n hx hb dX7_warmestMember_0 rfl (lv_at hl 0 rfl) ?_
  refine va_get (D := G) (ci := 11) (v := .ref (na 0)) (C := RX7) (T := TX7) (N := 9) hx hb hts hi11 hown hK.1 hP 0 rfl rfl 0 (by decide) hf12 (fun _ h9 => h9) rfl dX7_warmestMember_1 ?_
  refine va_get (D := G) (ci := 9) (v := .ref (na 1)) (C := RX5) (T := TX5) (N := 4) hx hb hts hi9 hown hK.1 hP 1 rfl rfl 0 (by decide) hf77 (fun _ h9 => h9) rfl dX7_warmestMember_4 ?_
  refine c_roVi S9 (c_X0_hottestMember l G cy (na 1) (na 5) (na 6) (na 7) (na 8) (nB σ) (vB σ) (hB σ) (pB σ) (mB σ) ho.1) (cwV 0 hts gX7_warmestMember_X0_hottestMember rfl rfl rfl (by decide +kernel) ⟨Nat.le_of_ble_eq_true rfl, Nat.le_of_ble_eq_true rfl⟩) PB.blind (va_recv hK.1 hP (ci := 4) (q0 := 2) rfl rfl) (PB.at hK (m_Ppart hP [2, 3, 4, 5, 6] rfl)) rfl hl.1 rfl (Nat.le_of_ble_eq_true rfl) ⟨Nat.zero_le _, Nat.zero_le _⟩ dX7_warmestMember_7 ?_
  refine lv_t0 (show oi (hotO (vB σ) (hB σ) (mB σ) (nB σ)) = nI j from by rw [hO]; rfl) ?_
  have hj5 := hotO_lt hO
  refine lv_istore_n (lv' := [(1, .int (nI j)), (0, .ref aX)]) hx hb dX7_warmestMember_10 rfl hl (by decide) rfl (fun ls hl => ?_)
  refine lv_iload_n hx hb dX7_warmestMember_11 rfl (lv_at hl 0 rfl) ?_
  refine lv_iconst (v := (-1)) hx hb dX7_warmestMember_12 (by decide) ?_
  refine lv_icmp_ne (tgt := 26) hx hb dX7_warmestMember_13 (by decide) (fun c_1 => ?_) (fun c_1 => ?_)
  · refine lv_iload_n hx hb dX7_warmestMember_26 rfl (lv_at hl 0 rfl) ?_
    exact ro_iret hx hb hr hlocks rfl dX7_warmestMember_27
  · exact absurd c_1 (m_nIne (by omega))

set_option maxRecDepth 100000 in
set_option maxHeartbeats 1000000 in
theorem c_X7_coldestMember (l : Launch) (G : va_G) (cy : Nat → ClassId) (aX : Nat) (na tr sn : Nat → Nat) (hs : Int32) (hi sc : Nat) (ep fc : Int32) (ob : Nat) (σ : St) (j : Nat) (ho : Ok σ) (hO : colO (vB σ) (hB σ) (mB σ) (nB σ) = some j) : RO l yX7_coldestMember wsX7_coldestMember { frames := 2, cells := 0, slots := 0, locals := 44 } (PB G cy [(aX, .inr (11, [.ref (na 0), .ref (tr 0), .ref (sn 0), .int hs, .ref hi, .ref sc, .int ep, .int fc, .ref ob])), (na 0, .inr (9, [.ref (na 1), .ref (na 2), .ref (na 3), .ref (na 4)])), (na 1, .inr (4, [.int (nI (nB σ)), .ref (na 5), .ref (na 6), .ref (na 7), .ref (na 8)])), (na 5, .inl (cy 2, 5, .inl (vB σ))), (na 6, .inl (cy 2, 5, .inl (hB σ))), (na 7, .inl (cy 3, 5, .inl (pB σ))), (na 8, .inl (cy 3, 5, .inl (mB σ))), (na 2, .inr (5, [.int (nI (nD σ)), .ref (na 9), .ref (na 10), .ref (na 11), .ref (na 12), .ref (na 13)])), (na 9, .inl (cy 2, 6, .inl (bD σ))), (na 10, .inl (cy 2, 6, .inl (lD σ))), (na 11, .inl (cy 2, 6, .inl (uD σ))), (na 12, .inl (cy 2, 6, .inl (qD σ))), (na 13, .inl (cy 3, 6, .inl (wD σ))), (na 3, .inr (6, [.int (nI (nE σ)), .ref (na 14), .ref (na 15), .ref (na 16)])), (na 14, .inl (cy 1, 10, .inl (kE σ))), (na 15, .inl (cy 2, 10, .inl (bE σ))), (na 16, .inl (cy 2, 10, .inl (lE σ))), (na 4, .inr (10, [.int (tT σ), .int (dT σ), .int (aT σ), .int (rT σ), .int (hT σ), .int (xT σ)]))]) [.ref aX] (some (.int (nI j))) := by
  refine RO.ofW (cc := cX7_coldestMember) (maxL := 2) (ret := (some .int)) (by decide) rfl (Nat.le_of_ble_eq_true rfl) ?_
  intro p e s m below meth c S9 hr hlocks hPB ls hl
  obtain ⟨hx, hb, hml, hown, hts⟩ := id S9
  obtain ⟨hP, hK⟩ := hPB
  have hl : lv_has ls 2 [(0, .ref aX)] := hl
  have hi9 : ∀ w ∈ wsX50, w ∈ wsX7_coldestMember := by decide +kernel
  have hi11 : ∀ w ∈ wsX70, w ∈ wsX7_coldestMember := by decide +kernel
  have hf12 := hts (.fieldLink RX7 12 "BathLeague" "now" "LBathLeague$State;") (by decide +kernel)
  have hf77 := hts (.fieldLink RX7 77 "BathLeague$State" "baths" "LBathLeague$Baths;") (by decide +kernel)
  have hN0 := ho.1
  have hM0 := ho.2.1
  have hE0 := ho.2.2.1
  refine lv_aload_n hx hb dX7_coldestMember_0 rfl (lv_at hl 0 rfl) ?_
  refine va_get (D := G) (ci := 11) (v := .ref (na 0)) (C := RX7) (T := TX7) (N := 9) hx hb hts hi11 hown hK.1 hP 0 rfl rfl 0 (by decide) hf12 (fun _ h9 => h9) rfl dX7_coldestMember_1 ?_
  refine va_get (D := G) (ci := 9) (v := .ref (na 1)) (C := RX5) (T := TX5) (N := 4) hx hb hts hi9 hown hK.1 hP 1 rfl rfl 0 (by decide) hf77 (fun _ h9 => h9) rfl dX7_coldestMember_4 ?_
  refine c_roVi S9 (c_X0_coolestMember l G cy (na 1) (na 5) (na 6) (na 7) (na 8) (nB σ) (vB σ) (hB σ) (pB σ) (mB σ) ho.1) (cwV 0 hts gX7_coldestMember_X0_coolestMember rfl rfl rfl (by decide +kernel) ⟨Nat.le_of_ble_eq_true rfl, Nat.le_of_ble_eq_true rfl⟩) PB.blind (va_recv hK.1 hP (ci := 4) (q0 := 2) rfl rfl) (PB.at hK (m_Ppart hP [2, 3, 4, 5, 6] rfl)) rfl hl.1 rfl (Nat.le_of_ble_eq_true rfl) ⟨Nat.zero_le _, Nat.zero_le _⟩ dX7_coldestMember_7 ?_
  refine lv_t0 (show oi (colO (vB σ) (hB σ) (mB σ) (nB σ)) = nI j from by rw [hO]; rfl) ?_
  have hj5 := colO_lt hO
  refine lv_istore_n (lv' := [(1, .int (nI j)), (0, .ref aX)]) hx hb dX7_coldestMember_10 rfl hl (by decide) rfl (fun ls hl => ?_)
  refine lv_iload_n hx hb dX7_coldestMember_11 rfl (lv_at hl 0 rfl) ?_
  refine lv_iconst (v := (-1)) hx hb dX7_coldestMember_12 (by decide) ?_
  refine lv_icmp_ne (tgt := 26) hx hb dX7_coldestMember_13 (by decide) (fun c_1 => ?_) (fun c_1 => ?_)
  · refine lv_iload_n hx hb dX7_coldestMember_26 rfl (lv_at hl 0 rfl) ?_
    exact ro_iret hx hb hr hlocks rfl dX7_coldestMember_27
  · exact absurd c_1 (m_nIne (by omega))

set_option maxRecDepth 100000 in
set_option maxHeartbeats 1000000 in
theorem c_X7_sharedHeat (l : Launch) (G : va_G) (cy : Nat → ClassId) (aX : Nat) (na tr sn : Nat → Nat) (hs : Int32) (hi sc : Nat) (ep fc : Int32) (ob : Nat) (σ : St) (a b : Nat) (ho : Ok σ) (h2 : ¬ cntW (vB σ) (mB σ) (nB σ) < 2) (hO : hotO (vB σ) (hB σ) (mB σ) (nB σ) = some a) (hC : colO (vB σ) (hB σ) (mB σ) (nB σ) = some b) : RO l yX7_sharedHeat wsX7_sharedHeat { frames := 2, cells := 0, slots := 0, locals := 45 } (PB G cy [(aX, .inr (11, [.ref (na 0), .ref (tr 0), .ref (sn 0), .int hs, .ref hi, .ref sc, .int ep, .int fc, .ref ob])), (na 0, .inr (9, [.ref (na 1), .ref (na 2), .ref (na 3), .ref (na 4)])), (na 1, .inr (4, [.int (nI (nB σ)), .ref (na 5), .ref (na 6), .ref (na 7), .ref (na 8)])), (na 5, .inl (cy 2, 5, .inl (vB σ))), (na 6, .inl (cy 2, 5, .inl (hB σ))), (na 7, .inl (cy 3, 5, .inl (pB σ))), (na 8, .inl (cy 3, 5, .inl (mB σ))), (na 2, .inr (5, [.int (nI (nD σ)), .ref (na 9), .ref (na 10), .ref (na 11), .ref (na 12), .ref (na 13)])), (na 9, .inl (cy 2, 6, .inl (bD σ))), (na 10, .inl (cy 2, 6, .inl (lD σ))), (na 11, .inl (cy 2, 6, .inl (uD σ))), (na 12, .inl (cy 2, 6, .inl (qD σ))), (na 13, .inl (cy 3, 6, .inl (wD σ))), (na 3, .inr (6, [.int (nI (nE σ)), .ref (na 14), .ref (na 15), .ref (na 16)])), (na 14, .inl (cy 1, 10, .inl (kE σ))), (na 15, .inl (cy 2, 10, .inl (bE σ))), (na 16, .inl (cy 2, 10, .inl (lE σ))), (na 4, .inr (10, [.int (tT σ), .int (dT σ), .int (aT σ), .int (rT σ), .int (hT σ), .int (xT σ)]))]) [.ref aX] (some (.int (units (vB σ) (hB σ) a b))) := by
  refine RO.ofW (cc := cX7_sharedHeat) (maxL := 1) (ret := (some .int)) (by decide) rfl (Nat.le_of_ble_eq_true rfl) ?_
  intro p e s m below meth c S9 hr hlocks hPB ls hl
  obtain ⟨hx, hb, hml, hown, hts⟩ := id S9
  obtain ⟨hP, hK⟩ := hPB
  have hl : lv_has ls 1 [(0, .ref aX)] := hl
  have hi9 : ∀ w ∈ wsX50, w ∈ wsX7_sharedHeat := by decide +kernel
  have hi11 : ∀ w ∈ wsX70, w ∈ wsX7_sharedHeat := by decide +kernel
  have hf12 := hts (.fieldLink RX7 12 "BathLeague" "now" "LBathLeague$State;") (by decide +kernel)
  have hf77 := hts (.fieldLink RX7 77 "BathLeague$State" "baths" "LBathLeague$Baths;") (by decide +kernel)
  have hN0 := ho.1
  have hM0 := ho.2.1
  have hE0 := ho.2.2.1
  have ha := hotO_lt hO
  have hb2 := colO_lt hC
  refine lv_aload_n hx hb dX7_sharedHeat_0 rfl (lv_at hl 0 rfl) ?_
  refine va_get (D := G) (ci := 11) (v := .ref (na 0)) (C := RX7) (T := TX7) (N := 9) hx hb hts hi11 hown hK.1 hP 0 rfl rfl 0 (by decide) hf12 (fun _ h9 => h9) rfl dX7_sharedHeat_1 ?_
  refine va_get (D := G) (ci := 9) (v := .ref (na 1)) (C := RX5) (T := TX5) (N := 4) hx hb hts hi9 hown hK.1 hP 1 rfl rfl 0 (by decide) hf77 (fun _ h9 => h9) rfl dX7_sharedHeat_4 ?_
  refine c_roVi S9 (c_X0_membersWithWater l G cy (na 1) (na 5) (na 6) (na 7) (na 8) (nB σ) (vB σ) (hB σ) (pB σ) (mB σ) ho.1) (cwV 0 hts gX7_sharedHeat_X0_membersWithWater rfl rfl rfl (by decide +kernel) ⟨Nat.le_of_ble_eq_true rfl, Nat.le_of_ble_eq_true rfl⟩) PB.blind (va_recv hK.1 hP (ci := 4) (q0 := 2) rfl rfl) (PB.at hK (m_Ppart hP [2, 3, 4, 5, 6] rfl)) rfl hl.1 rfl (Nat.le_of_ble_eq_true rfl) ⟨Nat.zero_le _, Nat.zero_le _⟩ dX7_sharedHeat_7 ?_
  refine lv_iconst (v := 2) hx hb dX7_sharedHeat_10 (by decide) ?_
  refine lv_icmp_ge (tgt := 24) hx hb dX7_sharedHeat_11 (by decide) (fun c_1 => ?_) (fun c_1 => ?_)
  · have c_1' : ¬ (cntW (vB σ) (mB σ) (nB σ)) < 2 := Int32.not_lt.mpr c_1
    refine lv_aload_n hx hb dX7_sharedHeat_24 rfl (lv_at hl 0 rfl) ?_
    refine va_get (D := G) (ci := 11) (v := .ref (na 0)) (C := RX7) (T := TX7) (N := 9) hx hb hts hi11 hown hK.1 hP 0 rfl rfl 0 (by decide) hf12 (fun _ h9 => h9) rfl dX7_sharedHeat_25 ?_
    refine va_get (D := G) (ci := 9) (v := .ref (na 1)) (C := RX5) (T := TX5) (N := 4) hx hb hts hi9 hown hK.1 hP 1 rfl rfl 0 (by decide) hf77 (fun _ h9 => h9) rfl dX7_sharedHeat_28 ?_
    refine lv_aload_n hx hb dX7_sharedHeat_31 rfl (lv_at hl 0 rfl) ?_
    refine va_get (D := G) (ci := 11) (v := .ref (na 0)) (C := RX7) (T := TX7) (N := 9) hx hb hts hi11 hown hK.1 hP 0 rfl rfl 0 (by decide) hf12 (fun _ h9 => h9) rfl dX7_sharedHeat_32 ?_
    refine va_get (D := G) (ci := 9) (v := .ref (na 1)) (C := RX5) (T := TX5) (N := 4) hx hb hts hi9 hown hK.1 hP 1 rfl rfl 0 (by decide) hf77 (fun _ h9 => h9) rfl dX7_sharedHeat_35 ?_
    refine c_roVi S9 (c_X0_hottestMember l G cy (na 1) (na 5) (na 6) (na 7) (na 8) (nB σ) (vB σ) (hB σ) (pB σ) (mB σ) ho.1) (cwV 0 hts gX7_sharedHeat_X0_hottestMember rfl rfl rfl (by decide +kernel) ⟨Nat.le_of_ble_eq_true rfl, Nat.le_of_ble_eq_true rfl⟩) PB.blind (va_recv hK.1 hP (ci := 4) (q0 := 2) rfl rfl) (PB.at hK (m_Ppart hP [2, 3, 4, 5, 6] rfl)) rfl hl.1 rfl (Nat.le_of_ble_eq_true rfl) ⟨Nat.zero_le _, Nat.zero_le _⟩ dX7_sharedHeat_38 ?_
    refine lv_t0 (show oi (hotO (vB σ) (hB σ) (mB σ) (nB σ)) = nI a from by rw [hO]; rfl) ?_
    refine lv_aload_n hx hb dX7_sharedHeat_41 rfl (lv_at hl 0 rfl) ?_
    refine va_get (D := G) (ci := 11) (v := .ref (na 0)) (C := RX7) (T := TX7) (N := 9) hx hb hts hi11 hown hK.1 hP 0 rfl rfl 0 (by decide) hf12 (fun _ h9 => h9) rfl dX7_sharedHeat_42 ?_
    refine va_get (D := G) (ci := 9) (v := .ref (na 1)) (C := RX5) (T := TX5) (N := 4) hx hb hts hi9 hown hK.1 hP 1 rfl rfl 0 (by decide) hf77 (fun _ h9 => h9) rfl dX7_sharedHeat_45 ?_
    refine c_roVi S9 (c_X0_coolestMember l G cy (na 1) (na 5) (na 6) (na 7) (na 8) (nB σ) (vB σ) (hB σ) (pB σ) (mB σ) ho.1) (cwV 0 hts gX7_sharedHeat_X0_coolestMember rfl rfl rfl (by decide +kernel) ⟨Nat.le_of_ble_eq_true rfl, Nat.le_of_ble_eq_true rfl⟩) PB.blind (va_recv hK.1 hP (ci := 4) (q0 := 2) rfl rfl) (PB.at hK (m_Ppart hP [2, 3, 4, 5, 6] rfl)) rfl hl.1 rfl (Nat.le_of_ble_eq_true rfl) ⟨Nat.zero_le _, Nat.zero_le _⟩ dX7_sharedHeat_48 ?_
    refine lv_t0 (show oi (colO (vB σ) (hB σ) (mB σ) (nB σ)) = nI b from by rw [hC]; rfl) ?_
    refine c_roVi S9 (c_X0_unitsToShare l G cy (na 1) (na 5) (na 6) (na 7) (na 8) (nB σ) (vB σ) (hB σ) (pB σ) (mB σ) a b ho.1 (by omega) (by omega)) (cwV 2 hts gX7_sharedHeat_X0_unitsToShare rfl rfl rfl (by decide +kernel) ⟨Nat.le_of_ble_eq_true rfl, Nat.le_of_ble_eq_true rfl⟩) PB.blind (va_recv hK.1 hP (ci := 4) (q0 := 2) rfl rfl) (PB.at hK (m_Ppart hP [2, 3, 4, 5, 6] rfl)) rfl hl.1 rfl (Nat.le_of_ble_eq_true rfl) ⟨Nat.zero_le _, Nat.zero_le _⟩ dX7_sharedHeat_51 ?_
    exact ro_iret hx hb hr hlocks rfl dX7_sharedHeat_54
  · exact absurd (Int32.not_le.mp c_1) h2

set_option maxRecDepth 100000 in
set_option maxHeartbeats 1000000 in
theorem c_X7_isConsistent (l : Launch) (G : va_G) (cy : Nat → ClassId) (aX : Nat) (na tr sn : Nat → Nat) (hs : Int32) (hi sc : Nat) (ep fc : Int32) (ob : Nat) (σ : St) (ho : Ok σ) (hs1 : sumM (hB σ) (mB σ) (nB σ) = sumA (hB σ) (nB σ) - sumO (hB σ) (mB σ) (nB σ)) (hs2 : sumA (vB σ) (nB σ) = aT σ - rT σ) (hs3 : sumA (hB σ) (nB σ) = hT σ - xT σ) : RO l yX7_isConsistent wsX7_isConsistent { frames := 2, cells := 0, slots := 0, locals := 42 } (PB G cy [(aX, .inr (11, [.ref (na 0), .ref (tr 0), .ref (sn 0), .int hs, .ref hi, .ref sc, .int ep, .int fc, .ref ob])), (na 0, .inr (9, [.ref (na 1), .ref (na 2), .ref (na 3), .ref (na 4)])), (na 1, .inr (4, [.int (nI (nB σ)), .ref (na 5), .ref (na 6), .ref (na 7), .ref (na 8)])), (na 5, .inl (cy 2, 5, .inl (vB σ))), (na 6, .inl (cy 2, 5, .inl (hB σ))), (na 7, .inl (cy 3, 5, .inl (pB σ))), (na 8, .inl (cy 3, 5, .inl (mB σ))), (na 2, .inr (5, [.int (nI (nD σ)), .ref (na 9), .ref (na 10), .ref (na 11), .ref (na 12), .ref (na 13)])), (na 9, .inl (cy 2, 6, .inl (bD σ))), (na 10, .inl (cy 2, 6, .inl (lD σ))), (na 11, .inl (cy 2, 6, .inl (uD σ))), (na 12, .inl (cy 2, 6, .inl (qD σ))), (na 13, .inl (cy 3, 6, .inl (wD σ))), (na 3, .inr (6, [.int (nI (nE σ)), .ref (na 14), .ref (na 15), .ref (na 16)])), (na 14, .inl (cy 1, 10, .inl (kE σ))), (na 15, .inl (cy 2, 10, .inl (bE σ))), (na 16, .inl (cy 2, 10, .inl (lE σ))), (na 4, .inr (10, [.int (tT σ), .int (dT σ), .int (aT σ), .int (rT σ), .int (hT σ), .int (xT σ)]))]) [.ref aX] (some (.int 1)) := by
  refine RO.ofW (cc := cX7_isConsistent) (maxL := 1) (ret := (some .boolean)) (by decide) rfl (Nat.le_of_ble_eq_true rfl) ?_
  intro p e s m below meth c S9 hr hlocks hPB ls hl
  obtain ⟨hx, hb, hml, hown, hts⟩ := id S9
  obtain ⟨hP, hK⟩ := hPB
  have hl : lv_has ls 1 [(0, .ref aX)] := hl
  have hi9 : ∀ w ∈ wsX50, w ∈ wsX7_isConsistent := by decide +kernel
  have hi10 : ∀ w ∈ wsX60, w ∈ wsX7_isConsistent := by decide +kernel
  have hi11 : ∀ w ∈ wsX70, w ∈ wsX7_isConsistent := by decide +kernel
  have hf12 := hts (.fieldLink RX7 12 "BathLeague" "now" "LBathLeague$State;") (by decide +kernel)
  have hf77 := hts (.fieldLink RX7 77 "BathLeague$State" "baths" "LBathLeague$Baths;") (by decide +kernel)
  have hf129 := hts (.fieldLink RX7 129 "BathLeague$State" "totals" "LBathLeague$Totals;") (by decide +kernel)
  have hf281 := hts (.fieldLink RX7 281 "BathLeague$Totals" "litresTapped" "I") (by decide +kernel)
  have hf284 := hts (.fieldLink RX7 284 "BathLeague$Totals" "litresDrained" "I") (by decide +kernel)
  have hf287 := hts (.fieldLink RX7 287 "BathLeague$Totals" "heatTapped" "I") (by decide +kernel)
  have hf290 := hts (.fieldLink RX7 290 "BathLeague$Totals" "heatLost" "I") (by decide +kernel)
  have hN0 := ho.1
  have hM0 := ho.2.1
  have hE0 := ho.2.2.1
  refine lv_aload_n hx hb dX7_isConsistent_0 rfl (lv_at hl 0 rfl) ?_
  refine c_roVi S9 (c_X7_leagueHeat l G cy aX na tr sn hs hi sc ep fc ob σ ho) (cwV 0 hts gX7_isConsistent_X7_leagueHeat rfl rfl rfl (by decide +kernel) ⟨Nat.le_of_ble_eq_true rfl, Nat.le_of_ble_eq_true rfl⟩) PB.blind (va_recv hK.1 hP (ci := 11) (q0 := 0) rfl rfl) (PB.at hK (m_Ppart hP [0, 1, 2, 3, 4, 5, 6, 7, 8, 9, 10, 11, 12, 13, 14, 15, 16, 17] rfl)) rfl hl.1 rfl (Nat.le_of_ble_eq_true rfl) ⟨Nat.zero_le _, Nat.zero_le _⟩ dX7_isConsistent_1 ?_
  refine lv_aload_n hx hb dX7_isConsistent_4 rfl (lv_at hl 0 rfl) ?_
  refine c_roVi S9 (c_X7_leagueHeatByOthers l G cy aX na tr sn hs hi sc ep fc ob σ ho) (cwV 0 hts gX7_isConsistent_X7_leagueHeatByOthers rfl rfl rfl (by decide +kernel) ⟨Nat.le_of_ble_eq_true rfl, Nat.le_of_ble_eq_true rfl⟩) PB.blind (va_recv hK.1 hP (ci := 11) (q0 := 0) rfl rfl) (PB.at hK (m_Ppart hP [0, 1, 2, 3, 4, 5, 6, 7, 8, 9, 10, 11, 12, 13, 14, 15, 16, 17] rfl)) rfl hl.1 rfl (Nat.le_of_ble_eq_true rfl) ⟨Nat.zero_le _, Nat.zero_le _⟩ dX7_isConsistent_5 ?_
  refine lv_icmp_ne (tgt := 83) hx hb dX7_isConsistent_8 (by decide) (fun c_1 => ?_) (fun c_1 => ?_)
  · exact absurd hs1 c_1
  · refine lv_aload_n hx hb dX7_isConsistent_11 rfl (lv_at hl 0 rfl) ?_
    refine va_get (D := G) (ci := 11) (v := .ref (na 0)) (C := RX7) (T := TX7) (N := 9) hx hb hts hi11 hown hK.1 hP 0 rfl rfl 0 (by decide) hf12 (fun _ h9 => h9) rfl dX7_isConsistent_12 ?_
    refine va_get (D := G) (ci := 9) (v := .ref (na 1)) (C := RX5) (T := TX5) (N := 4) hx hb hts hi9 hown hK.1 hP 1 rfl rfl 0 (by decide) hf77 (fun _ h9 => h9) rfl dX7_isConsistent_15 ?_
    refine c_roVi S9 (c_X0_volumeOfAll l G cy (na 1) (na 5) (na 6) (na 7) (na 8) (nB σ) (vB σ) (hB σ) (pB σ) (mB σ) ho.1) (cwV 0 hts gX7_isConsistent_X0_volumeOfAll rfl rfl rfl (by decide +kernel) ⟨Nat.le_of_ble_eq_true rfl, Nat.le_of_ble_eq_true rfl⟩) PB.blind (va_recv hK.1 hP (ci := 4) (q0 := 2) rfl rfl) (PB.at hK (m_Ppart hP [2, 3, 4, 5, 6] rfl)) rfl hl.1 rfl (Nat.le_of_ble_eq_true rfl) ⟨Nat.zero_le _, Nat.zero_le _⟩ dX7_isConsistent_18 ?_
    refine lv_aload_n hx hb dX7_isConsistent_21 rfl (lv_at hl 0 rfl) ?_
    refine va_get (D := G) (ci := 11) (v := .ref (na 0)) (C := RX7) (T := TX7) (N := 9) hx hb hts hi11 hown hK.1 hP 0 rfl rfl 0 (by decide) hf12 (fun _ h9 => h9) rfl dX7_isConsistent_22 ?_
    refine va_get (D := G) (ci := 9) (v := .ref (na 4)) (C := RX5) (T := TX5) (N := 4) hx hb hts hi9 hown hK.1 hP 1 rfl rfl 3 (by decide) hf129 (fun _ h9 => h9) rfl dX7_isConsistent_25 ?_
    refine va_get (D := G) (ci := 10) (v := .int (aT σ)) (C := RX6) (T := TX6) (N := 6) hx hb hts hi10 hown hK.1 hP 17 rfl rfl 2 (by decide) hf281 (fun _ h9 => h9) rfl dX7_isConsistent_28 ?_
    refine lv_aload_n hx hb dX7_isConsistent_31 rfl (lv_at hl 0 rfl) ?_
    refine va_get (D := G) (ci := 11) (v := .ref (na 0)) (C := RX7) (T := TX7) (N := 9) hx hb hts hi11 hown hK.1 hP 0 rfl rfl 0 (by decide) hf12 (fun _ h9 => h9) rfl dX7_isConsistent_32 ?_
    refine va_get (D := G) (ci := 9) (v := .ref (na 4)) (C := RX5) (T := TX5) (N := 4) hx hb hts hi9 hown hK.1 hP 1 rfl rfl 3 (by decide) hf129 (fun _ h9 => h9) rfl dX7_isConsistent_35 ?_
    refine va_get (D := G) (ci := 10) (v := .int (rT σ)) (C := RX6) (T := TX6) (N := 6) hx hb hts hi10 hown hK.1 hP 17 rfl rfl 3 (by decide) hf284 (fun _ h9 => h9) rfl dX7_isConsistent_38 ?_
    refine lv_isub hx hb dX7_isConsistent_41 ?_
    refine lv_icmp_ne (tgt := 83) hx hb dX7_isConsistent_42 (by decide) (fun c_2 => ?_) (fun c_2 => ?_)
    · exact absurd hs2 c_2
    · refine lv_aload_n hx hb dX7_isConsistent_45 rfl (lv_at hl 0 rfl) ?_
      refine va_get (D := G) (ci := 11) (v := .ref (na 0)) (C := RX7) (T := TX7) (N := 9) hx hb hts hi11 hown hK.1 hP 0 rfl rfl 0 (by decide) hf12 (fun _ h9 => h9) rfl dX7_isConsistent_46 ?_
      refine va_get (D := G) (ci := 9) (v := .ref (na 1)) (C := RX5) (T := TX5) (N := 4) hx hb hts hi9 hown hK.1 hP 1 rfl rfl 0 (by decide) hf77 (fun _ h9 => h9) rfl dX7_isConsistent_49 ?_
      refine c_roVi S9 (c_X0_heatOfAll l G cy (na 1) (na 5) (na 6) (na 7) (na 8) (nB σ) (vB σ) (hB σ) (pB σ) (mB σ) ho.1) (cwV 0 hts gX7_isConsistent_X0_heatOfAll rfl rfl rfl (by decide +kernel) ⟨Nat.le_of_ble_eq_true rfl, Nat.le_of_ble_eq_true rfl⟩) PB.blind (va_recv hK.1 hP (ci := 4) (q0 := 2) rfl rfl) (PB.at hK (m_Ppart hP [2, 3, 4, 5, 6] rfl)) rfl hl.1 rfl (Nat.le_of_ble_eq_true rfl) ⟨Nat.zero_le _, Nat.zero_le _⟩ dX7_isConsistent_52 ?_
      refine lv_aload_n hx hb dX7_isConsistent_55 rfl (lv_at hl 0 rfl) ?_
      refine va_get (D := G) (ci := 11) (v := .ref (na 0)) (C := RX7) (T := TX7) (N := 9) hx hb hts hi11 hown hK.1 hP 0 rfl rfl 0 (by decide) hf12 (fun _ h9 => h9) rfl dX7_isConsistent_56 ?_
      refine va_get (D := G) (ci := 9) (v := .ref (na 4)) (C := RX5) (T := TX5) (N := 4) hx hb hts hi9 hown hK.1 hP 1 rfl rfl 3 (by decide) hf129 (fun _ h9 => h9) rfl dX7_isConsistent_59 ?_
      refine va_get (D := G) (ci := 10) (v := .int (hT σ)) (C := RX6) (T := TX6) (N := 6) hx hb hts hi10 hown hK.1 hP 17 rfl rfl 4 (by decide) hf287 (fun _ h9 => h9) rfl dX7_isConsistent_62 ?_
      refine lv_aload_n hx hb dX7_isConsistent_65 rfl (lv_at hl 0 rfl) ?_
      refine va_get (D := G) (ci := 11) (v := .ref (na 0)) (C := RX7) (T := TX7) (N := 9) hx hb hts hi11 hown hK.1 hP 0 rfl rfl 0 (by decide) hf12 (fun _ h9 => h9) rfl dX7_isConsistent_66 ?_
      refine va_get (D := G) (ci := 9) (v := .ref (na 4)) (C := RX5) (T := TX5) (N := 4) hx hb hts hi9 hown hK.1 hP 1 rfl rfl 3 (by decide) hf129 (fun _ h9 => h9) rfl dX7_isConsistent_69 ?_
      refine va_get (D := G) (ci := 10) (v := .int (xT σ)) (C := RX6) (T := TX6) (N := 6) hx hb hts hi10 hown hK.1 hP 17 rfl rfl 5 (by decide) hf290 (fun _ h9 => h9) rfl dX7_isConsistent_72 ?_
      refine lv_isub hx hb dX7_isConsistent_75 ?_
      refine lv_icmp_ne (tgt := 83) hx hb dX7_isConsistent_76 (by decide) (fun c_3 => ?_) (fun c_3 => ?_)
      · exact absurd hs3 c_3
      · refine lv_iconst (v := 1) hx hb dX7_isConsistent_79 (by decide) ?_
        refine lv_goto (tgt := 84) hx hb dX7_isConsistent_80 (by decide) ?_
        exact ro_zret hx hb hr hlocks rfl rfl dX7_isConsistent_84

set_option maxRecDepth 100000 in
set_option maxHeartbeats 1000000 in
theorem c_X7_duckByQuacks (l : Launch) (G : va_G) (cy : Nat → ClassId) (aX : Nat) (na tr sn : Nat → Nat) (hs : Int32) (hi sc : Nat) (ep fc : Int32) (ob : Nat) (σ : St) (j : Nat) (ho : Ok σ) (hj : j < nD σ) : RO l yX7_duckByQuacks wsX7_duckByQuacks { frames := 5, cells := 0, slots := 0, locals := 116 } (PB G cy [(aX, .inr (11, [.ref (na 0), .ref (tr 0), .ref (sn 0), .int hs, .ref hi, .ref sc, .int ep, .int fc, .ref ob])), (na 0, .inr (9, [.ref (na 1), .ref (na 2), .ref (na 3), .ref (na 4)])), (na 1, .inr (4, [.int (nI (nB σ)), .ref (na 5), .ref (na 6), .ref (na 7), .ref (na 8)])), (na 5, .inl (cy 2, 5, .inl (vB σ))), (na 6, .inl (cy 2, 5, .inl (hB σ))), (na 7, .inl (cy 3, 5, .inl (pB σ))), (na 8, .inl (cy 3, 5, .inl (mB σ))), (na 2, .inr (5, [.int (nI (nD σ)), .ref (na 9), .ref (na 10), .ref (na 11), .ref (na 12), .ref (na 13)])), (na 9, .inl (cy 2, 6, .inl (bD σ))), (na 10, .inl (cy 2, 6, .inl (lD σ))), (na 11, .inl (cy 2, 6, .inl (uD σ))), (na 12, .inl (cy 2, 6, .inl (qD σ))), (na 13, .inl (cy 3, 6, .inl (wD σ))), (na 3, .inr (6, [.int (nI (nE σ)), .ref (na 14), .ref (na 15), .ref (na 16)])), (na 14, .inl (cy 1, 10, .inl (kE σ))), (na 15, .inl (cy 2, 10, .inl (bE σ))), (na 16, .inl (cy 2, 10, .inl (lE σ))), (na 4, .inr (10, [.int (tT σ), .int (dT σ), .int (aT σ), .int (rT σ), .int (hT σ), .int (xT σ)]))]) [.ref aX, .int (nI j)] (some (.int (atF (fun j => rkDN (plz (vB σ) (hB σ) (bD σ) (lD σ) (uD σ)) (qD σ) j (nD σ)) (nI j) 0 (nD σ)))) := by
  refine RO.ofW (cc := cX7_duckByQuacks) (maxL := 2) (ret := (some .int)) (by decide) rfl (Nat.le_of_ble_eq_true rfl) ?_
  intro p e s m below meth c S9 hr hlocks hPB ls hl
  obtain ⟨hx, hb, hml, hown, hts⟩ := id S9
  obtain ⟨hP, hK⟩ := hPB
  have hl : lv_has ls 2 [(0, .ref aX), (1, .int (nI j))] := hl
  have hi5 : ∀ w ∈ wsX10, w ∈ wsX7_duckByQuacks := by decide +kernel
  have hi9 : ∀ w ∈ wsX50, w ∈ wsX7_duckByQuacks := by decide +kernel
  have hi11 : ∀ w ∈ wsX70, w ∈ wsX7_duckByQuacks := by decide +kernel
  have hf12 := hts (.fieldLink RX7 12 "BathLeague" "now" "LBathLeague$State;") (by decide +kernel)
  have hf77 := hts (.fieldLink RX7 77 "BathLeague$State" "baths" "LBathLeague$Baths;") (by decide +kernel)
  have hf232 := hts (.fieldLink RX7 232 "BathLeague$State" "ducks" "LBathLeague$Ducks;") (by decide +kernel)
  have hf236 := hts (.fieldLink RX7 236 "BathLeague$Ducks" "count" "I") (by decide +kernel)
  have hN0 := ho.1
  have hM0 := ho.2.1
  have hE0 := ho.2.2.1
  refine lv_iload_n hx hb dX7_duckByQuacks_0 rfl (lv_at hl 1 rfl) ?_
  refine lv_aload_n hx hb dX7_duckByQuacks_1 rfl (lv_at hl 0 rfl) ?_
  refine va_get (D := G) (ci := 11) (v := .ref (na 0)) (C := RX7) (T := TX7) (N := 9) hx hb hts hi11 hown hK.1 hP 0 rfl rfl 0 (by decide) hf12 (fun _ h9 => h9) rfl dX7_duckByQuacks_2 ?_
  refine va_get (D := G) (ci := 9) (v := .ref (na 2)) (C := RX5) (T := TX5) (N := 4) hx hb hts hi9 hown hK.1 hP 1 rfl rfl 1 (by decide) hf232 (fun _ h9 => h9) rfl dX7_duckByQuacks_5 ?_
  refine va_get (D := G) (ci := 5) (v := .int (nI (nD σ))) (C := RX1) (T := TX1) (N := 6) hx hb hts hi5 hown hK.1 hP 7 rfl rfl 0 (by decide) hf236 (fun _ h9 => h9) rfl dX7_duckByQuacks_8 ?_
  refine c_roSv S9 (c_X7_requireElement l G cy j (nD σ) hj (by omega)) (va_cwS 2 hts gX7_duckByQuacks_X7_requireElement rfl rfl rfl (by decide +kernel) ⟨Nat.le_of_ble_eq_true rfl, Nat.le_of_ble_eq_true rfl⟩) PB.blind (PB.at hK (m_Ppart hP [] rfl)) rfl hl.1 rfl (Nat.le_of_ble_eq_true rfl) ⟨Nat.zero_le _, Nat.zero_le _⟩ dX7_duckByQuacks_11 ?_
  refine lv_aload_n hx hb dX7_duckByQuacks_14 rfl (lv_at hl 0 rfl) ?_
  refine va_get (D := G) (ci := 11) (v := .ref (na 0)) (C := RX7) (T := TX7) (N := 9) hx hb hts hi11 hown hK.1 hP 0 rfl rfl 0 (by decide) hf12 (fun _ h9 => h9) rfl dX7_duckByQuacks_15 ?_
  refine va_get (D := G) (ci := 9) (v := .ref (na 2)) (C := RX5) (T := TX5) (N := 4) hx hb hts hi9 hown hK.1 hP 1 rfl rfl 1 (by decide) hf232 (fun _ h9 => h9) rfl dX7_duckByQuacks_18 ?_
  refine lv_iload_n hx hb dX7_duckByQuacks_21 rfl (lv_at hl 1 rfl) ?_
  refine lv_aload_n hx hb dX7_duckByQuacks_22 rfl (lv_at hl 0 rfl) ?_
  refine va_get (D := G) (ci := 11) (v := .ref (na 0)) (C := RX7) (T := TX7) (N := 9) hx hb hts hi11 hown hK.1 hP 0 rfl rfl 0 (by decide) hf12 (fun _ h9 => h9) rfl dX7_duckByQuacks_23 ?_
  refine va_get (D := G) (ci := 9) (v := .ref (na 1)) (C := RX5) (T := TX5) (N := 4) hx hb hts hi9 hown hK.1 hP 1 rfl rfl 0 (by decide) hf77 (fun _ h9 => h9) rfl dX7_duckByQuacks_26 ?_
  refine c_roVi S9 (c_X1_atRank l G cy (na 2) (na 9) (na 10) (na 11) (na 12) (na 13) (nD σ) (bD σ) (lD σ) (uD σ) (qD σ) (wD σ) (na 1) (na 5) (na 6) (na 7) (na 8) (nB σ) (vB σ) (hB σ) (pB σ) (mB σ) (nI j) ho.2.1 ho.d) (cwV 2 hts gX7_duckByQuacks_X1_atRank rfl rfl rfl (by decide +kernel) ⟨Nat.le_of_ble_eq_true rfl, Nat.le_of_ble_eq_true rfl⟩) PB.blind (va_recv hK.1 hP (ci := 5) (q0 := 7) rfl rfl) (PB.at hK (m_Ppart hP [7, 8, 9, 10, 11, 12, 2, 3, 4, 5, 6] rfl)) rfl hl.1 rfl (Nat.le_of_ble_eq_true rfl) ⟨Nat.zero_le _, Nat.zero_le _⟩ dX7_duckByQuacks_29 ?_
  exact ro_iret hx hb hr hlocks rfl dX7_duckByQuacks_32
