set_option maxRecDepth 100000 in
set_option maxHeartbeats 1000000 in
theorem c_X8_errorPosition_ok (l : Launch) (G : va_G) (cy : Nat → ClassId) (am aS aBf aAs aSv aPa aOu aTx aCo K OM LN PO CM : Nat) (iS th iw ea fa : Int32) (σ : St) (hF : ¬ ea < 0) : WC l yX8_errorPosition wsX8_errorPosition { frames := 1, cells := 0, slots := 0, locals := 21 } G (PB G cy [(am, .inr (12, [.ref aS, .ref aBf, .ref aAs, .ref aSv, .int iS, .ref aPa, .int (nI K), .int th, .ref aOu, .int (nI OM), .ref aTx, .int (nI LN), .int (nI PO), .int iw, .int ea, .int fa, .ref aCo, .int (nI CM)])), (aS, .inl (cy 2, 89, .inl (encS σ)))]) [.ref am] [(am, .inr (12, [.ref aS, .ref aBf, .ref aAs, .ref aSv, .int iS, .ref aPa, .int (nI K), .int th, .ref aOu, .int (nI OM), .ref aTx, .int (nI LN), .int (nI PO), .int iw, .int ea, .int fa, .ref aCo, .int (nI CM)])), (aS, .inl (cy 2, 89, .inl (encS σ)))] [(am, .inr (12, [.ref aS, .ref aBf, .ref aAs, .ref aSv, .int iS, .ref aPa, .int (nI K), .int 0, .ref aOu, .int (nI OM), .ref aTx, .int (nI LN), .int (nI PO), .int iw, .int ea, .int fa, .ref aCo, .int (nI CM)])), (aS, .inl (cy 2, 89, .inl (encS σ)))] (some (.int ea)) := by
  refine WC.ofW (cc := cX8_errorPosition) (maxL := 1) (ret := (some .int)) (by decide) rfl (Nat.le_of_ble_eq_true rfl) ?_
  intro p e s m below meth c S9 hr hlocks hPB hD hS ls hl
  obtain ⟨hx, hb, hml, hown, hts⟩ := id S9
  obtain ⟨hP, hK⟩ := hPB
  have hl : lv_has ls 1 [(0, .ref am)] := hl
  have hP : va_P G vwCl [(am, .inr (12, [.ref aS, .ref aBf, .ref aAs, .ref aSv, .int iS, .ref aPa, .int (nI K), .int th, .ref aOu, .int (nI OM), .ref aTx, .int (nI LN), .int (nI PO), .int iw, .int ea, .int fa, .ref aCo, .int (nI CM)])), (aS, .inl (cy 2, 89, .inl (encT (nB σ) (vB σ) (hB σ) (pB σ) (mB σ) (nD σ) (bD σ) (lD σ) (uD σ) (qD σ) (wD σ) (nE σ) (kE σ) (bE σ) (lE σ) (tT σ) (dT σ) (aT σ) (rT σ) (hT σ) (xT σ))))] s.heap := hP
  have hD0 := hD
  have hD : va_D (wA [(am, .inr (12, [.ref aS, .ref aBf, .ref aAs, .ref aSv, .int iS, .ref aPa, .int (nI K), .int th, .ref aOu, .int (nI OM), .ref aTx, .int (nI LN), .int (nI PO), .int iw, .int ea, .int fa, .ref aCo, .int (nI CM)])), (aS, .inl (cy 2, 89, .inl (encS σ)))]) [(am, .inr (12, [.ref aS, .ref aBf, .ref aAs, .ref aSv, .int iS, .ref aPa, .int (nI K), .int th, .ref aOu, .int (nI OM), .ref aTx, .int (nI LN), .int (nI PO), .int iw, .int ea, .int fa, .ref aCo, .int (nI CM)])), (aS, .inl (cy 2, 89, .inl (encT (nB σ) (vB σ) (hB σ) (pB σ) (mB σ) (nD σ) (bD σ) (lD σ) (uD σ) (qD σ) (wD σ) (nE σ) (kE σ) (bE σ) (lE σ) (tT σ) (dT σ) (aT σ) (rT σ) (hT σ) (xT σ))))] := hD
  have hi12 : ∀ w ∈ wsX80, w ∈ wsX8_errorPosition := by decide +kernel
  have hf32 := hts (.fieldLink RX8 32 "BathLeagueModel" "errorAt" "I") (by decide +kernel)
  refine lv_aload_n hx hb dX8_errorPosition_0 rfl (lv_at hl 0 rfl) ?_
  refine lv_aload_n hx hb dX8_errorPosition_1 rfl (lv_at hl 0 rfl) ?_
  refine va_get (D := G) (ci := 12) (v := .int ea) (C := RX8) (T := TX8) (N := 18) hx hb hts hi12 hown hK.1 hP 0 rfl rfl 14 (by decide) hf32 (fun _ h9 => h9) rfl dX8_errorPosition_2 ?_
  refine lv_if_lt (tgt := 12) hx hb dX8_errorPosition_5 (by decide) (fun c_1 => ?_) (fun c_1 => ?_)
  · exact absurd c_1 hF
  · have c_1' : 0 ≤ ea := Int32.not_lt.mp c_1
    refine lv_iconst (v := 1) hx hb dX8_errorPosition_8 (by decide) ?_
    refine lv_goto (tgt := 13) hx hb dX8_errorPosition_9 (by decide) ?_
    refine c_wcVi (ws' := [(am, .inr (12, [.ref aS, .ref aBf, .ref aAs, .ref aSv, .int iS, .ref aPa, .int (nI K), .int 0, .ref aOu, .int (nI OM), .ref aTx, .int (nI LN), .int (nI PO), .int iw, .int ea, .int fa, .ref aCo, .int (nI CM)])), (aS, .inl (cy 2, 89, .inl (encT (nB σ) (vB σ) (hB σ) (pB σ) (mB σ) (nD σ) (bD σ) (lD σ) (uD σ) (qD σ) (wD σ) (nE σ) (kE σ) (bE σ) (lE σ) (tT σ) (dT σ) (aT σ) (rT σ) (hT σ) (xT σ))))]) S9 (c_X8_isThere_1 l G cy am aS aBf aAs aSv aPa aOu aTx aCo K OM LN PO CM iS th iw ea fa (nB σ) (vB σ) (hB σ) (pB σ) (mB σ) (nD σ) (bD σ) (lD σ) (uD σ) (qD σ) (wD σ) (nE σ) (kE σ) (bE σ) (lE σ) (tT σ) (dT σ) (aT σ) (rT σ) (hT σ) (xT σ)) (cwV 1 hts gX8_errorPosition_X8_isThere rfl rfl rfl (by decide +kernel) ⟨Nat.le_of_ble_eq_true rfl, Nat.le_of_ble_eq_true rfl⟩) PB.blind (va_recv hK.1 hP (ci := 12) (q0 := 0) rfl rfl) (PB.at hK (m_Ppart hP [0, 1] rfl)) hP hD hS [0, 1] rfl rfl m_f2 rfl rfl hl.1 rfl (Nat.le_of_ble_eq_true rfl) ⟨Nat.zero_le _, Nat.zero_le _⟩ dX8_errorPosition_13 (fun H locs hP hD hS => ?_)
    refine lv_if_eq (tgt := 26) hx hb dX8_errorPosition_16 (by decide) (fun c_2 => ?_) (fun c_2 => ?_)
    · exact absurd c_2 (by decide)
    · refine lv_aload_n hx hb dX8_errorPosition_19 rfl (lv_at hl 0 rfl) ?_
      refine va_get (D := G) (ci := 12) (v := .int ea) (C := RX8) (T := TX8) (N := 18) hx hb hts hi12 hown hK.1 hP 0 rfl rfl 14 (by decide) hf32 (fun _ h9 => h9) rfl dX8_errorPosition_20 ?_
      refine lv_goto (tgt := 27) hx hb dX8_errorPosition_23 (by decide) ?_
      exact wc_iret hx hb hr hlocks hP hS rfl dX8_errorPosition_27

set_option maxRecDepth 100000 in
set_option maxHeartbeats 1000000 in
theorem c_X8_errorPosition_no (l : Launch) (G : va_G) (cy : Nat → ClassId) (am aS aBf aAs aSv aPa aOu aTx aCo K OM LN PO CM : Nat) (iS th iw ea fa : Int32) (σ : St) (hF : ea < 0) : WC l yX8_errorPosition wsX8_errorPosition { frames := 1, cells := 0, slots := 0, locals := 21 } G (PB G cy [(am, .inr (12, [.ref aS, .ref aBf, .ref aAs, .ref aSv, .int iS, .ref aPa, .int (nI K), .int th, .ref aOu, .int (nI OM), .ref aTx, .int (nI LN), .int (nI PO), .int iw, .int ea, .int fa, .ref aCo, .int (nI CM)])), (aS, .inl (cy 2, 89, .inl (encS σ)))]) [.ref am] [(am, .inr (12, [.ref aS, .ref aBf, .ref aAs, .ref aSv, .int iS, .ref aPa, .int (nI K), .int th, .ref aOu, .int (nI OM), .ref aTx, .int (nI LN), .int (nI PO), .int iw, .int ea, .int fa, .ref aCo, .int (nI CM)])), (aS, .inl (cy 2, 89, .inl (encS σ)))] [(am, .inr (12, [.ref aS, .ref aBf, .ref aAs, .ref aSv, .int iS, .ref aPa, .int (nI K), .int 1, .ref aOu, .int (nI OM), .ref aTx, .int (nI LN), .int (nI PO), .int iw, .int ea, .int fa, .ref aCo, .int (nI CM)])), (aS, .inl (cy 2, 89, .inl (encS σ)))] (some (.int 0)) := by
  refine WC.ofW (cc := cX8_errorPosition) (maxL := 1) (ret := (some .int)) (by decide) rfl (Nat.le_of_ble_eq_true rfl) ?_
  intro p e s m below meth c S9 hr hlocks hPB hD hS ls hl
  obtain ⟨hx, hb, hml, hown, hts⟩ := id S9
  obtain ⟨hP, hK⟩ := hPB
  have hl : lv_has ls 1 [(0, .ref am)] := hl
  have hP : va_P G vwCl [(am, .inr (12, [.ref aS, .ref aBf, .ref aAs, .ref aSv, .int iS, .ref aPa, .int (nI K), .int th, .ref aOu, .int (nI OM), .ref aTx, .int (nI LN), .int (nI PO), .int iw, .int ea, .int fa, .ref aCo, .int (nI CM)])), (aS, .inl (cy 2, 89, .inl (encT (nB σ) (vB σ) (hB σ) (pB σ) (mB σ) (nD σ) (bD σ) (lD σ) (uD σ) (qD σ) (wD σ) (nE σ) (kE σ) (bE σ) (lE σ) (tT σ) (dT σ) (aT σ) (rT σ) (hT σ) (xT σ))))] s.heap := hP
  have hD0 := hD
  have hD : va_D (wA [(am, .inr (12, [.ref aS, .ref aBf, .ref aAs, .ref aSv, .int iS, .ref aPa, .int (nI K), .int th, .ref aOu, .int (nI OM), .ref aTx, .int (nI LN), .int (nI PO), .int iw, .int ea, .int fa, .ref aCo, .int (nI CM)])), (aS, .inl (cy 2, 89, .inl (encS σ)))]) [(am, .inr (12, [.ref aS, .ref aBf, .ref aAs, .ref aSv, .int iS, .ref aPa, .int (nI K), .int th, .ref aOu, .int (nI OM), .ref aTx, .int (nI LN), .int (nI PO), .int iw, .int ea, .int fa, .ref aCo, .int (nI CM)])), (aS, .inl (cy 2, 89, .inl (encT (nB σ) (vB σ) (hB σ) (pB σ) (mB σ) (nD σ) (bD σ) (lD σ) (uD σ) (qD σ) (wD σ) (nE σ) (kE σ) (bE σ) (lE σ) (tT σ) (dT σ) (aT σ) (rT σ) (hT σ) (xT σ))))] := hD
  have hi12 : ∀ w ∈ wsX80, w ∈ wsX8_errorPosition := by decide +kernel
  have hf32 := hts (.fieldLink RX8 32 "BathLeagueModel" "errorAt" "I") (by decide +kernel)
  refine lv_aload_n hx hb dX8_errorPosition_0 rfl (lv_at hl 0 rfl) ?_
  refine lv_aload_n hx hb dX8_errorPosition_1 rfl (lv_at hl 0 rfl) ?_
  refine va_get (D := G) (ci := 12) (v := .int ea) (C := RX8) (T := TX8) (N := 18) hx hb hts hi12 hown hK.1 hP 0 rfl rfl 14 (by decide) hf32 (fun _ h9 => h9) rfl dX8_errorPosition_2 ?_
  refine lv_if_lt (tgt := 12) hx hb dX8_errorPosition_5 (by decide) (fun c_1 => ?_) (fun c_1 => ?_)
  · have c_1' : ¬ 0 ≤ ea := Int32.not_le.mpr c_1
    refine lv_iconst (v := 0) hx hb dX8_errorPosition_12 (by decide) ?_
    refine c_wcVi (ws' := [(am, .inr (12, [.ref aS, .ref aBf, .ref aAs, .ref aSv, .int iS, .ref aPa, .int (nI K), .int 1, .ref aOu, .int (nI OM), .ref aTx, .int (nI LN), .int (nI PO), .int iw, .int ea, .int fa, .ref aCo, .int (nI CM)])), (aS, .inl (cy 2, 89, .inl (encT (nB σ) (vB σ) (hB σ) (pB σ) (mB σ) (nD σ) (bD σ) (lD σ) (uD σ) (qD σ) (wD σ) (nE σ) (kE σ) (bE σ) (lE σ) (tT σ) (dT σ) (aT σ) (rT σ) (hT σ) (xT σ))))]) S9 (c_X8_isThere_0 l G cy am aS aBf aAs aSv aPa aOu aTx aCo K OM LN PO CM iS th iw ea fa (nB σ) (vB σ) (hB σ) (pB σ) (mB σ) (nD σ) (bD σ) (lD σ) (uD σ) (qD σ) (wD σ) (nE σ) (kE σ) (bE σ) (lE σ) (tT σ) (dT σ) (aT σ) (rT σ) (hT σ) (xT σ)) (cwV 1 hts gX8_errorPosition_X8_isThere rfl rfl rfl (by decide +kernel) ⟨Nat.le_of_ble_eq_true rfl, Nat.le_of_ble_eq_true rfl⟩) PB.blind (va_recv hK.1 hP (ci := 12) (q0 := 0) rfl rfl) (PB.at hK (m_Ppart hP [0, 1] rfl)) hP hD hS [0, 1] rfl rfl m_f2 rfl rfl hl.1 rfl (Nat.le_of_ble_eq_true rfl) ⟨Nat.zero_le _, Nat.zero_le _⟩ dX8_errorPosition_13 (fun H locs hP hD hS => ?_)
    refine lv_if_eq (tgt := 26) hx hb dX8_errorPosition_16 (by decide) (fun c_2 => ?_) (fun c_2 => ?_)
    · refine lv_iconst (v := 0) hx hb dX8_errorPosition_26 (by decide) ?_
      exact wc_iret hx hb hr hlocks hP hS rfl dX8_errorPosition_27
    · exact absurd c_2 (by decide)
  · exact absurd hF c_1

set_option maxRecDepth 100000 in
set_option maxHeartbeats 1000000 in
theorem c_X8_failedCommand_ok (l : Launch) (G : va_G) (cy : Nat → ClassId) (am aS aBf aAs aSv aPa aOu aTx aCo K OM LN PO CM : Nat) (iS th iw ea fa : Int32) (σ : St) (hF : ¬ fa < 0) : WC l yX8_failedCommand wsX8_failedCommand { frames := 1, cells := 0, slots := 0, locals := 21 } G (PB G cy [(am, .inr (12, [.ref aS, .ref aBf, .ref aAs, .ref aSv, .int iS, .ref aPa, .int (nI K), .int th, .ref aOu, .int (nI OM), .ref aTx, .int (nI LN), .int (nI PO), .int iw, .int ea, .int fa, .ref aCo, .int (nI CM)])), (aS, .inl (cy 2, 89, .inl (encS σ)))]) [.ref am] [(am, .inr (12, [.ref aS, .ref aBf, .ref aAs, .ref aSv, .int iS, .ref aPa, .int (nI K), .int th, .ref aOu, .int (nI OM), .ref aTx, .int (nI LN), .int (nI PO), .int iw, .int ea, .int fa, .ref aCo, .int (nI CM)])), (aS, .inl (cy 2, 89, .inl (encS σ)))] [(am, .inr (12, [.ref aS, .ref aBf, .ref aAs, .ref aSv, .int iS, .ref aPa, .int (nI K), .int 0, .ref aOu, .int (nI OM), .ref aTx, .int (nI LN), .int (nI PO), .int iw, .int ea, .int fa, .ref aCo, .int (nI CM)])), (aS, .inl (cy 2, 89, .inl (encS σ)))] (some (.int fa)) := by
  refine WC.ofW (cc := cX8_failedCommand) (maxL := 1) (ret := (some .int)) (by decide) rfl (Nat.le_of_ble_eq_true rfl) ?_
  intro p e s m below meth c S9 hr hlocks hPB hD hS ls hl
  obtain ⟨hx, hb, hml, hown, hts⟩ := id S9
  obtain ⟨hP, hK⟩ := hPB
  have hl : lv_has ls 1 [(0, .ref am)] := hl
  have hP : va_P G vwCl [(am, .inr (12, [.ref aS, .ref aBf, .ref aAs, .ref aSv, .int iS, .ref aPa, .int (nI K), .int th, .ref aOu, .int (nI OM), .ref aTx, .int (nI LN), .int (nI PO), .int iw, .int ea, .int fa, .ref aCo, .int (nI CM)])), (aS, .inl (cy 2, 89, .inl (encT (nB σ) (vB σ) (hB σ) (pB σ) (mB σ) (nD σ) (bD σ) (lD σ) (uD σ) (qD σ) (wD σ) (nE σ) (kE σ) (bE σ) (lE σ) (tT σ) (dT σ) (aT σ) (rT σ) (hT σ) (xT σ))))] s.heap := hP
  have hD0 := hD
  have hD : va_D (wA [(am, .inr (12, [.ref aS, .ref aBf, .ref aAs, .ref aSv, .int iS, .ref aPa, .int (nI K), .int th, .ref aOu, .int (nI OM), .ref aTx, .int (nI LN), .int (nI PO), .int iw, .int ea, .int fa, .ref aCo, .int (nI CM)])), (aS, .inl (cy 2, 89, .inl (encS σ)))]) [(am, .inr (12, [.ref aS, .ref aBf, .ref aAs, .ref aSv, .int iS, .ref aPa, .int (nI K), .int th, .ref aOu, .int (nI OM), .ref aTx, .int (nI LN), .int (nI PO), .int iw, .int ea, .int fa, .ref aCo, .int (nI CM)])), (aS, .inl (cy 2, 89, .inl (encT (nB σ) (vB σ) (hB σ) (pB σ) (mB σ) (nD σ) (bD σ) (lD σ) (uD σ) (qD σ) (wD σ) (nE σ) (kE σ) (bE σ) (lE σ) (tT σ) (dT σ) (aT σ) (rT σ) (hT σ) (xT σ))))] := hD
  have hi12 : ∀ w ∈ wsX80, w ∈ wsX8_failedCommand := by decide +kernel
  have hf36 := hts (.fieldLink RX8 36 "BathLeagueModel" "failedAt" "I") (by decide +kernel)
  refine lv_aload_n hx hb dX8_failedCommand_0 rfl (lv_at hl 0 rfl) ?_
  refine lv_aload_n hx hb dX8_failedCommand_1 rfl (lv_at hl 0 rfl) ?_
  refine va_get (D := G) (ci := 12) (v := .int fa) (C := RX8) (T := TX8) (N := 18) hx hb hts hi12 hown hK.1 hP 0 rfl rfl 15 (by decide) hf36 (fun _ h9 => h9) rfl dX8_failedCommand_2 ?_
  refine lv_if_lt (tgt := 12) hx hb dX8_failedCommand_5 (by decide) (fun c_1 => ?_) (fun c_1 => ?_)
  · exact absurd c_1 hF
  · have c_1' : 0 ≤ fa := Int32.not_lt.mp c_1
    refine lv_iconst (v := 1) hx hb dX8_failedCommand_8 (by decide) ?_
    refine lv_goto (tgt := 13) hx hb dX8_failedCommand_9 (by decide) ?_
    refine c_wcVi (ws' := [(am, .inr (12, [.ref aS, .ref aBf, .ref aAs, .ref aSv, .int iS, .ref aPa, .int (nI K), .int 0, .ref aOu, .int (nI OM), .ref aTx, .int (nI LN), .int (nI PO), .int iw, .int ea, .int fa, .ref aCo, .int (nI CM)])), (aS, .inl (cy 2, 89, .inl (encT (nB σ) (vB σ) (hB σ) (pB σ) (mB σ) (nD σ) (bD σ) (lD σ) (uD σ) (qD σ) (wD σ) (nE σ) (kE σ) (bE σ) (lE σ) (tT σ) (dT σ) (aT σ) (rT σ) (hT σ) (xT σ))))]) S9 (c_X8_isThere_1 l G cy am aS aBf aAs aSv aPa aOu aTx aCo K OM LN PO CM iS th iw ea fa (nB σ) (vB σ) (hB σ) (pB σ) (mB σ) (nD σ) (bD σ) (lD σ) (uD σ) (qD σ) (wD σ) (nE σ) (kE σ) (bE σ) (lE σ) (tT σ) (dT σ) (aT σ) (rT σ) (hT σ) (xT σ)) (cwV 1 hts gX8_failedCommand_X8_isThere rfl rfl rfl (by decide +kernel) ⟨Nat.le_of_ble_eq_true rfl, Nat.le_of_ble_eq_true rfl⟩) PB.blind (va_recv hK.1 hP (ci := 12) (q0 := 0) rfl rfl) (PB.at hK (m_Ppart hP [0, 1] rfl)) hP hD hS [0, 1] rfl rfl m_f2 rfl rfl hl.1 rfl (Nat.le_of_ble_eq_true rfl) ⟨Nat.zero_le _, Nat.zero_le _⟩ dX8_failedCommand_13 (fun H locs hP hD hS => ?_)
    refine lv_if_eq (tgt := 26) hx hb dX8_failedCommand_16 (by decide) (fun c_2 => ?_) (fun c_2 => ?_)
    · exact absurd c_2 (by decide)
    · refine lv_aload_n hx hb dX8_failedCommand_19 rfl (lv_at hl 0 rfl) ?_
      refine va_get (D := G) (ci := 12) (v := .int fa) (C := RX8) (T := TX8) (N := 18) hx hb hts hi12 hown hK.1 hP 0 rfl rfl 15 (by decide) hf36 (fun _ h9 => h9) rfl dX8_failedCommand_20 ?_
      refine lv_goto (tgt := 27) hx hb dX8_failedCommand_23 (by decide) ?_
      exact wc_iret hx hb hr hlocks hP hS rfl dX8_failedCommand_27

set_option maxRecDepth 100000 in
set_option maxHeartbeats 1000000 in
theorem c_X8_failedCommand_no (l : Launch) (G : va_G) (cy : Nat → ClassId) (am aS aBf aAs aSv aPa aOu aTx aCo K OM LN PO CM : Nat) (iS th iw ea fa : Int32) (σ : St) (hF : fa < 0) : WC l yX8_failedCommand wsX8_failedCommand { frames := 1, cells := 0, slots := 0, locals := 21 } G (PB G cy [(am, .inr (12, [.ref aS, .ref aBf, .ref aAs, .ref aSv, .int iS, .ref aPa, .int (nI K), .int th, .ref aOu, .int (nI OM), .ref aTx, .int (nI LN), .int (nI PO), .int iw, .int ea, .int fa, .ref aCo, .int (nI CM)])), (aS, .inl (cy 2, 89, .inl (encS σ)))]) [.ref am] [(am, .inr (12, [.ref aS, .ref aBf, .ref aAs, .ref aSv, .int iS, .ref aPa, .int (nI K), .int th, .ref aOu, .int (nI OM), .ref aTx, .int (nI LN), .int (nI PO), .int iw, .int ea, .int fa, .ref aCo, .int (nI CM)])), (aS, .inl (cy 2, 89, .inl (encS σ)))] [(am, .inr (12, [.ref aS, .ref aBf, .ref aAs, .ref aSv, .int iS, .ref aPa, .int (nI K), .int 1, .ref aOu, .int (nI OM), .ref aTx, .int (nI LN), .int (nI PO), .int iw, .int ea, .int fa, .ref aCo, .int (nI CM)])), (aS, .inl (cy 2, 89, .inl (encS σ)))] (some (.int 0)) := by
  refine WC.ofW (cc := cX8_failedCommand) (maxL := 1) (ret := (some .int)) (by decide) rfl (Nat.le_of_ble_eq_true rfl) ?_
  intro p e s m below meth c S9 hr hlocks hPB hD hS ls hl
  obtain ⟨hx, hb, hml, hown, hts⟩ := id S9
  obtain ⟨hP, hK⟩ := hPB
  have hl : lv_has ls 1 [(0, .ref am)] := hl
  have hP : va_P G vwCl [(am, .inr (12, [.ref aS, .ref aBf, .ref aAs, .ref aSv, .int iS, .ref aPa, .int (nI K), .int th, .ref aOu, .int (nI OM), .ref aTx, .int (nI LN), .int (nI PO), .int iw, .int ea, .int fa, .ref aCo, .int (nI CM)])), (aS, .inl (cy 2, 89, .inl (encT (nB σ) (vB σ) (hB σ) (pB σ) (mB σ) (nD σ) (bD σ) (lD σ) (uD σ) (qD σ) (wD σ) (nE σ) (kE σ) (bE σ) (lE σ) (tT σ) (dT σ) (aT σ) (rT σ) (hT σ) (xT σ))))] s.heap := hP
  have hD0 := hD
  have hD : va_D (wA [(am, .inr (12, [.ref aS, .ref aBf, .ref aAs, .ref aSv, .int iS, .ref aPa, .int (nI K), .int th, .ref aOu, .int (nI OM), .ref aTx, .int (nI LN), .int (nI PO), .int iw, .int ea, .int fa, .ref aCo, .int (nI CM)])), (aS, .inl (cy 2, 89, .inl (encS σ)))]) [(am, .inr (12, [.ref aS, .ref aBf, .ref aAs, .ref aSv, .int iS, .ref aPa, .int (nI K), .int th, .ref aOu, .int (nI OM), .ref aTx, .int (nI LN), .int (nI PO), .int iw, .int ea, .int fa, .ref aCo, .int (nI CM)])), (aS, .inl (cy 2, 89, .inl (encT (nB σ) (vB σ) (hB σ) (pB σ) (mB σ) (nD σ) (bD σ) (lD σ) (uD σ) (qD σ) (wD σ) (nE σ) (kE σ) (bE σ) (lE σ) (tT σ) (dT σ) (aT σ) (rT σ) (hT σ) (xT σ))))] := hD
  have hi12 : ∀ w ∈ wsX80, w ∈ wsX8_failedCommand := by decide +kernel
  have hf36 := hts (.fieldLink RX8 36 "BathLeagueModel" "failedAt" "I") (by decide +kernel)
  refine lv_aload_n hx hb dX8_failedCommand_0 rfl (lv_at hl 0 rfl) ?_
  refine lv_aload_n hx hb dX8_failedCommand_1 rfl (lv_at hl 0 rfl) ?_
  refine va_get (D := G) (ci := 12) (v := .int fa) (C := RX8) (T := TX8) (N := 18) hx hb hts hi12 hown hK.1 hP 0 rfl rfl 15 (by decide) hf36 (fun _ h9 => h9) rfl dX8_failedCommand_2 ?_
  refine lv_if_lt (tgt := 12) hx hb dX8_failedCommand_5 (by decide) (fun c_1 => ?_) (fun c_1 => ?_)
  · have c_1' : ¬ 0 ≤ fa := Int32.not_le.mpr c_1
    refine lv_iconst (v := 0) hx hb dX8_failedCommand_12 (by decide) ?_
    refine c_wcVi (ws' := [(am, .inr (12, [.ref aS, .ref aBf, .ref aAs, .ref aSv, .int iS, .ref aPa, .int (nI K), .int 1, .ref aOu, .int (nI OM), .ref aTx, .int (nI LN), .int (nI PO), .int iw, .int ea, .int fa, .ref aCo, .int (nI CM)])), (aS, .inl (cy 2, 89, .inl (encT (nB σ) (vB σ) (hB σ) (pB σ) (mB σ) (nD σ) (bD σ) (lD σ) (uD σ) (qD σ) (wD σ) (nE σ) (kE σ) (bE σ) (lE σ) (tT σ) (dT σ) (aT σ) (rT σ) (hT σ) (xT σ))))]) S9 (c_X8_isThere_0 l G cy am aS aBf aAs aSv aPa aOu aTx aCo K OM LN PO CM iS th iw ea fa (nB σ) (vB σ) (hB σ) (pB σ) (mB σ) (nD σ) (bD σ) (lD σ) (uD σ) (qD σ) (wD σ) (nE σ) (kE σ) (bE σ) (lE σ) (tT σ) (dT σ) (aT σ) (rT σ) (hT σ) (xT σ)) (cwV 1 hts gX8_failedCommand_X8_isThere rfl rfl rfl (by decide +kernel) ⟨Nat.le_of_ble_eq_true rfl, Nat.le_of_ble_eq_true rfl⟩) PB.blind (va_recv hK.1 hP (ci := 12) (q0 := 0) rfl rfl) (PB.at hK (m_Ppart hP [0, 1] rfl)) hP hD hS [0, 1] rfl rfl m_f2 rfl rfl hl.1 rfl (Nat.le_of_ble_eq_true rfl) ⟨Nat.zero_le _, Nat.zero_le _⟩ dX8_failedCommand_13 (fun H locs hP hD hS => ?_)
    refine lv_if_eq (tgt := 26) hx hb dX8_failedCommand_16 (by decide) (fun c_2 => ?_) (fun c_2 => ?_)
    · refine lv_iconst (v := 0) hx hb dX8_failedCommand_26 (by decide) ?_
      exact wc_iret hx hb hr hlocks hP hS rfl dX8_failedCommand_27
    · exact absurd c_2 (by decide)
  · exact absurd hF c_1

set_option maxRecDepth 100000 in
set_option maxHeartbeats 1000000 in
theorem c_X8_type_ok (l : Launch) (G : va_G) (cy : Nat → ClassId) (am aS aBf aAs aSv aPa aOu aTx aCo K OM LN PO CM : Nat) (iS th iw ea fa x : Int32) (fO : Nat → Int32) (hx1 : inR x 32 126 = true) (hl9 : LN < 60) (hx9 : vp_nar .char x = x) : WC l yX8_type wsX8_type { frames := 1, cells := 0, slots := 0, locals := 22 } G (PB G cy [(am, .inr (12, [.ref aS, .ref aBf, .ref aAs, .ref aSv, .int iS, .ref aPa, .int (nI K), .int th, .ref aOu, .int (nI OM), .ref aTx, .int (nI LN), .int (nI PO), .int iw, .int ea, .int fa, .ref aCo, .int (nI CM)])), (aTx, .inl (cy 1, 60, .inl fO))]) [.ref am, .int x] [(am, .inr (12, [.ref aS, .ref aBf, .ref aAs, .ref aSv, .int iS, .ref aPa, .int (nI K), .int th, .ref aOu, .int (nI OM), .ref aTx, .int (nI LN), .int (nI PO), .int iw, .int ea, .int fa, .ref aCo, .int (nI CM)])), (aTx, .inl (cy 1, 60, .inl fO))] [(am, .inr (12, [.ref aS, .ref aBf, .ref aAs, .ref aSv, .int iS, .ref aPa, .int (nI K), .int 0, .ref aOu, .int (nI OM), .ref aTx, .int (nI (LN + 1)), .int (nI PO), .int iw, .int ea, .int fa, .ref aCo, .int (nI CM)])), (aTx, .inl (cy 1, 60, .inl (upd fO LN x)))] (some (.int (nI (LN + 1)))) := by
  refine WC.ofW (cc := cX8_type) (maxL := 2) (ret := (some .int)) (by decide) rfl (Nat.le_of_ble_eq_true rfl) ?_
  intro p e s m below meth c S9 hr hlocks hPB hD hS ls hl
  obtain ⟨hx, hb, hml, hown, hts⟩ := id S9
  obtain ⟨hP, hK⟩ := hPB
  have hl : lv_has ls 2 [(0, .ref am), (1, .int x)] := hl
  have hi12 : ∀ w ∈ wsX80, w ∈ wsX8_type := by decide +kernel
  have hf29 := hts (.fieldLink RX8 29 "BathLeagueModel" "text" "[C") (by decide +kernel)
  have hf42 := hts (.fieldLink RX8 42 "BathLeagueModel" "thrown" "I") (by decide +kernel)
  have hf190 := hts (.fieldLink RX8 190 "BathLeagueModel" "length" "I") (by decide +kernel)
  refine lv_aload_n hx hb dX8_type_0 rfl (lv_at hl 0 rfl) ?_
  refine lv_iload_n hx hb dX8_type_1 rfl (lv_at hl 1 rfl) ?_
  refine lv_bipush (v := 32) hx hb dX8_type_2 (by decide) ?_
  refine lv_bipush (v := 126) hx hb dX8_type_4 (by decide) ?_
  refine c_roSi S9 (c_X8_in l G cy x 32 126) (va_cwS 3 hts gX8_type_X8_in rfl rfl rfl (by decide +kernel) ⟨Nat.le_of_ble_eq_true rfl, Nat.le_of_ble_eq_true rfl⟩) PB.blind (PB.at hK (m_Ppart hP [] rfl)) rfl hl.1 rfl (Nat.le_of_ble_eq_true rfl) ⟨Nat.zero_le _, Nat.zero_le _⟩ dX8_type_6 ?_
  refine lv_t0 (if_pos hx1) ?_
  refine lv_if_ne (tgt := 16) hx hb dX8_type_9 (by decide) (fun c_1 => ?_) (fun c_1 => ?_)
  · refine lv_aload_n hx hb dX8_type_16 rfl (lv_at hl 0 rfl) ?_
    refine va_get (D := G) (ci := 12) (v := .int (nI LN)) (C := RX8) (T := TX8) (N := 18) hx hb hts hi12 hown hK.1 hP 0 rfl rfl 11 (by decide) hf190 (fun _ h9 => h9) rfl dX8_type_17 ?_
    refine lv_bipush (v := 60) hx hb dX8_type_20 (by decide) ?_
    refine lv_icmp_ne (tgt := 29) hx hb dX8_type_22 (by decide) (fun c_2 => ?_) (fun c_2 => ?_)
    · have k_3 : ¬ (LN = 60) := fun z => c_2 ((m_eqN (a := LN) (b := 60) rfl rfl (by omega) (by omega)).mpr z)
      refine lv_iconst (v := 0) hx hb dX8_type_29 (by decide) ?_
      refine va_put (D := G) (ci := 12) (v := .int 0) (ty := .int) (C := RX8) (T := TX8) (N := 18) hx hb hts hi12 tyX8 tyX8_ok nmX8 hown hK.1 hP hD hS 0 rfl rfl 7 (by decide) hf42 (fun _ h9 => h9) rfl (by decide +kernel) rfl rfl (Nat.le_of_ble_eq_true rfl) dX8_type_30 (fun H locs hP hD hS => ?_)
      have hP : va_P G vwCl [(am, .inr (12, [.ref aS, .ref aBf, .ref aAs, .ref aSv, .int iS, .ref aPa, .int (nI K), .int 0, .ref aOu, .int (nI OM), .ref aTx, .int (nI LN), .int (nI PO), .int iw, .int ea, .int fa, .ref aCo, .int (nI CM)])), (aTx, .inl (cy 1, 60, .inl fO))] H := hP
      have hD : va_D (wA [(am, .inr (12, [.ref aS, .ref aBf, .ref aAs, .ref aSv, .int iS, .ref aPa, .int (nI K), .int th, .ref aOu, .int (nI OM), .ref aTx, .int (nI LN), .int (nI PO), .int iw, .int ea, .int fa, .ref aCo, .int (nI CM)])), (aTx, .inl (cy 1, 60, .inl fO))]) [(am, .inr (12, [.ref aS, .ref aBf, .ref aAs, .ref aSv, .int iS, .ref aPa, .int (nI K), .int 0, .ref aOu, .int (nI OM), .ref aTx, .int (nI LN), .int (nI PO), .int iw, .int ea, .int fa, .ref aCo, .int (nI CM)])), (aTx, .inl (cy 1, 60, .inl fO))] := hD
      refine lv_aload_n hx hb dX8_type_33 rfl (lv_at hl 0 rfl) ?_
      refine va_get (D := G) (ci := 12) (v := .int 0) (C := RX8) (T := TX8) (N := 18) hx hb hts hi12 hown hK.1 hP 0 rfl rfl 7 (by decide) hf42 (fun _ h9 => h9) rfl dX8_type_34 ?_
      refine lv_if_le (tgt := 42) hx hb dX8_type_37 (by decide) (fun c_4 => ?_) (fun c_4 => ?_)
      · refine lv_aload_n hx hb dX8_type_42 rfl (lv_at hl 0 rfl) ?_
        refine va_get (D := G) (ci := 12) (v := .ref aTx) (C := RX8) (T := TX8) (N := 18) hx hb hts hi12 hown hK.1 hP 0 rfl rfl 10 (by decide) hf29 (fun _ h9 => h9) rfl dX8_type_43 ?_
        refine lv_aload_n hx hb dX8_type_46 rfl (lv_at hl 0 rfl) ?_
        refine va_get (D := G) (ci := 12) (v := .int (nI LN)) (C := RX8) (T := TX8) (N := 18) hx hb hts hi12 hown hK.1 hP 0 rfl rfl 11 (by decide) hf190 (fun _ h9 => h9) rfl dX8_type_47 ?_
        refine lv_iload_n hx hb dX8_type_50 rfl (lv_at hl 1 rfl) ?_
        refine m_cast hx hb hK hP hD hS 1 (k := LN) rfl rfl (by omega) (Nat.le_of_ble_eq_true rfl) hx9 dX8_type_51 (fun H locs hP hD hS => ?_)
        have hP : va_P G vwCl [(am, .inr (12, [.ref aS, .ref aBf, .ref aAs, .ref aSv, .int iS, .ref aPa, .int (nI K), .int 0, .ref aOu, .int (nI OM), .ref aTx, .int (nI LN), .int (nI PO), .int iw, .int ea, .int fa, .ref aCo, .int (nI CM)])), (aTx, .inl (cy 1, 60, .inl (upd fO LN x)))] H := hP
        have hD : va_D (wA [(am, .inr (12, [.ref aS, .ref aBf, .ref aAs, .ref aSv, .int iS, .ref aPa, .int (nI K), .int th, .ref aOu, .int (nI OM), .ref aTx, .int (nI LN), .int (nI PO), .int iw, .int ea, .int fa, .ref aCo, .int (nI CM)])), (aTx, .inl (cy 1, 60, .inl fO))]) [(am, .inr (12, [.ref aS, .ref aBf, .ref aAs, .ref aSv, .int iS, .ref aPa, .int (nI K), .int 0, .ref aOu, .int (nI OM), .ref aTx, .int (nI LN), .int (nI PO), .int iw, .int ea, .int fa, .ref aCo, .int (nI CM)])), (aTx, .inl (cy 1, 60, .inl (upd fO LN x)))] := hD
        refine lv_aload_n hx hb dX8_type_52 rfl (lv_at hl 0 rfl) ?_
        refine lv_dup hx hb dX8_type_53 rfl ?_
        refine va_get (D := G) (ci := 12) (v := .int (nI LN)) (C := RX8) (T := TX8) (N := 18) hx hb hts hi12 hown hK.1 hP 0 rfl rfl 11 (by decide) hf190 (fun _ h9 => h9) rfl dX8_type_54 ?_
        refine lv_iconst (v := 1) hx hb dX8_type_57 (by decide) ?_
        refine lv_iadd hx hb dX8_type_58 ?_
        refine va_put (D := G) (ci := 12) (v := .int ((nI LN) + 1)) (ty := .int) (C := RX8) (T := TX8) (N := 18) hx hb hts hi12 tyX8 tyX8_ok nmX8 hown hK.1 hP hD hS 0 rfl rfl 11 (by decide) hf190 (fun _ h9 => h9) rfl (by decide +kernel) rfl rfl (Nat.le_of_ble_eq_true rfl) dX8_type_59 (fun H locs hP hD hS => ?_)
        have hP : va_P G vwCl [(am, .inr (12, [.ref aS, .ref aBf, .ref aAs, .ref aSv, .int iS, .ref aPa, .int (nI K), .int 0, .ref aOu, .int (nI OM), .ref aTx, .int ((nI LN) + 1), .int (nI PO), .int iw, .int ea, .int fa, .ref aCo, .int (nI CM)])), (aTx, .inl (cy 1, 60, .inl (upd fO LN x)))] H := hP
        have hD : va_D (wA [(am, .inr (12, [.ref aS, .ref aBf, .ref aAs, .ref aSv, .int iS, .ref aPa, .int (nI K), .int th, .ref aOu, .int (nI OM), .ref aTx, .int (nI LN), .int (nI PO), .int iw, .int ea, .int fa, .ref aCo, .int (nI CM)])), (aTx, .inl (cy 1, 60, .inl fO))]) [(am, .inr (12, [.ref aS, .ref aBf, .ref aAs, .ref aSv, .int iS, .ref aPa, .int (nI K), .int 0, .ref aOu, .int (nI OM), .ref aTx, .int ((nI LN) + 1), .int (nI PO), .int iw, .int ea, .int fa, .ref aCo, .int (nI CM)])), (aTx, .inl (cy 1, 60, .inl (upd fO LN x)))] := hD
        refine lv_aload_n hx hb dX8_type_62 rfl (lv_at hl 0 rfl) ?_
        refine va_get (D := G) (ci := 12) (v := .int ((nI LN) + 1)) (C := RX8) (T := TX8) (N := 18) hx hb hts hi12 hown hK.1 hP 0 rfl rfl 11 (by decide) hf190 (fun _ h9 => h9) rfl dX8_type_63 ?_
        have e_5 : nI (LN + 1) = (nI LN) + 1 := (nI_1 _).symm
        exact wc_iret hx hb hr hlocks (by rw [e_5]; exact hP) hS (nI_1 _) dX8_type_66
      · exact absurd c_4 (by decide)
    · have k_6 : LN = 60 := (m_eqN (a := LN) (b := 60) rfl rfl (by omega) (by omega)).mp c_2
      exfalso; omega
  · exact absurd c_1 (by decide)

set_option maxRecDepth 100000 in
set_option maxHeartbeats 1000000 in
theorem c_X8_type_no1 (l : Launch) (G : va_G) (cy : Nat → ClassId) (am aS aBf aAs aSv aPa aOu aTx aCo K OM LN PO CM : Nat) (iS th iw ea fa x : Int32) (hx1 : ¬ inR x 32 126 = true) : WC l yX8_type wsX8_type { frames := 1, cells := 0, slots := 0, locals := 22 } G (PB G cy [(am, .inr (12, [.ref aS, .ref aBf, .ref aAs, .ref aSv, .int iS, .ref aPa, .int (nI K), .int th, .ref aOu, .int (nI OM), .ref aTx, .int (nI LN), .int (nI PO), .int iw, .int ea, .int fa, .ref aCo, .int (nI CM)]))]) [.ref am, .int x] [(am, .inr (12, [.ref aS, .ref aBf, .ref aAs, .ref aSv, .int iS, .ref aPa, .int (nI K), .int th, .ref aOu, .int (nI OM), .ref aTx, .int (nI LN), .int (nI PO), .int iw, .int ea, .int fa, .ref aCo, .int (nI CM)]))] [(am, .inr (12, [.ref aS, .ref aBf, .ref aAs, .ref aSv, .int iS, .ref aPa, .int (nI K), .int 1, .ref aOu, .int (nI OM), .ref aTx, .int (nI LN), .int (nI PO), .int iw, .int ea, .int fa, .ref aCo, .int (nI CM)]))] (some (.int 0)) := by
  refine WC.ofW (cc := cX8_type) (maxL := 2) (ret := (some .int)) (by decide) rfl (Nat.le_of_ble_eq_true rfl) ?_
  intro p e s m below meth c S9 hr hlocks hPB hD hS ls hl
  obtain ⟨hx, hb, hml, hown, hts⟩ := id S9
  obtain ⟨hP, hK⟩ := hPB
  have hl : lv_has ls 2 [(0, .ref am), (1, .int x)] := hl
  have hi12 : ∀ w ∈ wsX80, w ∈ wsX8_type := by decide +kernel
  have hf42 := hts (.fieldLink RX8 42 "BathLeagueModel" "thrown" "I") (by decide +kernel)
  refine lv_aload_n hx hb dX8_type_0 rfl (lv_at hl 0 rfl) ?_
  refine lv_iload_n hx hb dX8_type_1 rfl (lv_at hl 1 rfl) ?_
  refine lv_bipush (v := 32) hx hb dX8_type_2 (by decide) ?_
  refine lv_bipush (v := 126) hx hb dX8_type_4 (by decide) ?_
  refine c_roSi S9 (c_X8_in l G cy x 32 126) (va_cwS 3 hts gX8_type_X8_in rfl rfl rfl (by decide +kernel) ⟨Nat.le_of_ble_eq_true rfl, Nat.le_of_ble_eq_true rfl⟩) PB.blind (PB.at hK (m_Ppart hP [] rfl)) rfl hl.1 rfl (Nat.le_of_ble_eq_true rfl) ⟨Nat.zero_le _, Nat.zero_le _⟩ dX8_type_6 ?_
  refine lv_t0 (if_neg hx1) ?_
  refine lv_if_ne (tgt := 16) hx hb dX8_type_9 (by decide) (fun c_1 => ?_) (fun c_1 => ?_)
  · exact absurd c_1 (by decide)
  · refine lv_iconst (v := 1) hx hb dX8_type_12 (by decide) ?_
    refine lv_goto (tgt := 30) hx hb dX8_type_13 (by decide) ?_
    refine va_put (D := G) (ci := 12) (v := .int 1) (ty := .int) (C := RX8) (T := TX8) (N := 18) hx hb hts hi12 tyX8 tyX8_ok nmX8 hown hK.1 hP hD hS 0 rfl rfl 7 (by decide) hf42 (fun _ h9 => h9) rfl (by decide +kernel) rfl rfl (Nat.le_of_ble_eq_true rfl) dX8_type_30 (fun H locs hP hD hS => ?_)
    have hP : va_P G vwCl [(am, .inr (12, [.ref aS, .ref aBf, .ref aAs, .ref aSv, .int iS, .ref aPa, .int (nI K), .int 1, .ref aOu, .int (nI OM), .ref aTx, .int (nI LN), .int (nI PO), .int iw, .int ea, .int fa, .ref aCo, .int (nI CM)]))] H := hP
    have hD : va_D (wA [(am, .inr (12, [.ref aS, .ref aBf, .ref aAs, .ref aSv, .int iS, .ref aPa, .int (nI K), .int th, .ref aOu, .int (nI OM), .ref aTx, .int (nI LN), .int (nI PO), .int iw, .int ea, .int fa, .ref aCo, .int (nI CM)]))]) [(am, .inr (12, [.ref aS, .ref aBf, .ref aAs, .ref aSv, .int iS, .ref aPa, .int (nI K), .int 1, .ref aOu, .int (nI OM), .ref aTx, .int (nI LN), .int (nI PO), .int iw, .int ea, .int fa, .ref aCo, .int (nI CM)]))] := hD
    refine lv_aload_n hx hb dX8_type_33 rfl (lv_at hl 0 rfl) ?_
    refine va_get (D := G) (ci := 12) (v := .int 1) (C := RX8) (T := TX8) (N := 18) hx hb hts hi12 hown hK.1 hP 0 rfl rfl 7 (by decide) hf42 (fun _ h9 => h9) rfl dX8_type_34 ?_
    refine lv_if_le (tgt := 42) hx hb dX8_type_37 (by decide) (fun c_2 => ?_) (fun c_2 => ?_)
    · exact absurd c_2 (by decide)
    · refine lv_iconst (v := 0) hx hb dX8_type_40 (by decide) ?_
      exact wc_iret hx hb hr hlocks hP hS rfl dX8_type_41

set_option maxRecDepth 100000 in
set_option maxHeartbeats 1000000 in
theorem c_X8_type_no2 (l : Launch) (G : va_G) (cy : Nat → ClassId) (am aS aBf aAs aSv aPa aOu aTx aCo K OM LN PO CM : Nat) (iS th iw ea fa x : Int32) (hx1 : inR x 32 126 = true) (hl9 : LN = 60) : WC l yX8_type wsX8_type { frames := 1, cells := 0, slots := 0, locals := 22 } G (PB G cy [(am, .inr (12, [.ref aS, .ref aBf, .ref aAs, .ref aSv, .int iS, .ref aPa, .int (nI K), .int th, .ref aOu, .int (nI OM), .ref aTx, .int (nI LN), .int (nI PO), .int iw, .int ea, .int fa, .ref aCo, .int (nI CM)]))]) [.ref am, .int x] [(am, .inr (12, [.ref aS, .ref aBf, .ref aAs, .ref aSv, .int iS, .ref aPa, .int (nI K), .int th, .ref aOu, .int (nI OM), .ref aTx, .int (nI LN), .int (nI PO), .int iw, .int ea, .int fa, .ref aCo, .int (nI CM)]))] [(am, .inr (12, [.ref aS, .ref aBf, .ref aAs, .ref aSv, .int iS, .ref aPa, .int (nI K), .int 2, .ref aOu, .int (nI OM), .ref aTx, .int (nI LN), .int (nI PO), .int iw, .int ea, .int fa, .ref aCo, .int (nI CM)]))] (some (.int 0)) := by
  refine WC.ofW (cc := cX8_type) (maxL := 2) (ret := (some .int)) (by decide) rfl (Nat.le_of_ble_eq_true rfl) ?_
  intro p e s m below meth c S9 hr hlocks hPB hD hS ls hl
  obtain ⟨hx, hb, hml, hown, hts⟩ := id S9
  obtain ⟨hP, hK⟩ := hPB
  have hl : lv_has ls 2 [(0, .ref am), (1, .int x)] := hl
  have hi12 : ∀ w ∈ wsX80, w ∈ wsX8_type := by decide +kernel
  have hf42 := hts (.fieldLink RX8 42 "BathLeagueModel" "thrown" "I") (by decide +kernel)
  have hf190 := hts (.fieldLink RX8 190 "BathLeagueModel" "length" "I") (by decide +kernel)
  refine lv_aload_n hx hb dX8_type_0 rfl (lv_at hl 0 rfl) ?_
  refine lv_iload_n hx hb dX8_type_1 rfl (lv_at hl 1 rfl) ?_
  refine lv_bipush (v := 32) hx hb dX8_type_2 (by decide) ?_
  refine lv_bipush (v := 126) hx hb dX8_type_4 (by decide) ?_
  refine c_roSi S9 (c_X8_in l G cy x 32 126) (va_cwS 3 hts gX8_type_X8_in rfl rfl rfl (by decide +kernel) ⟨Nat.le_of_ble_eq_true rfl, Nat.le_of_ble_eq_true rfl⟩) PB.blind (PB.at hK (m_Ppart hP [] rfl)) rfl hl.1 rfl (Nat.le_of_ble_eq_true rfl) ⟨Nat.zero_le _, Nat.zero_le _⟩ dX8_type_6 ?_
  refine lv_t0 (if_pos hx1) ?_
  refine lv_if_ne (tgt := 16) hx hb dX8_type_9 (by decide) (fun c_1 => ?_) (fun c_1 => ?_)
  · refine lv_aload_n hx hb dX8_type_16 rfl (lv_at hl 0 rfl) ?_
    refine va_get (D := G) (ci := 12) (v := .int (nI LN)) (C := RX8) (T := TX8) (N := 18) hx hb hts hi12 hown hK.1 hP 0 rfl rfl 11 (by decide) hf190 (fun _ h9 => h9) rfl dX8_type_17 ?_
    refine lv_bipush (v := 60) hx hb dX8_type_20 (by decide) ?_
    refine lv_icmp_ne (tgt := 29) hx hb dX8_type_22 (by decide) (fun c_2 => ?_) (fun c_2 => ?_)
    · have k_3 : ¬ (LN = 60) := fun z => c_2 ((m_eqN (a := LN) (b := 60) rfl rfl (by omega) (by omega)).mpr z)
      exfalso; omega
    · have k_4 : LN = 60 := (m_eqN (a := LN) (b := 60) rfl rfl (by omega) (by omega)).mp c_2
      refine lv_iconst (v := 2) hx hb dX8_type_25 (by decide) ?_
      refine lv_goto (tgt := 30) hx hb dX8_type_26 (by decide) ?_
      refine va_put (D := G) (ci := 12) (v := .int 2) (ty := .int) (C := RX8) (T := TX8) (N := 18) hx hb hts hi12 tyX8 tyX8_ok nmX8 hown hK.1 hP hD hS 0 rfl rfl 7 (by decide) hf42 (fun _ h9 => h9) rfl (by decide +kernel) rfl rfl (Nat.le_of_ble_eq_true rfl) dX8_type_30 (fun H locs hP hD hS => ?_)
      have hP : va_P G vwCl [(am, .inr (12, [.ref aS, .ref aBf, .ref aAs, .ref aSv, .int iS, .ref aPa, .int (nI K), .int 2, .ref aOu, .int (nI OM), .ref aTx, .int (nI LN), .int (nI PO), .int iw, .int ea, .int fa, .ref aCo, .int (nI CM)]))] H := hP
      have hD : va_D (wA [(am, .inr (12, [.ref aS, .ref aBf, .ref aAs, .ref aSv, .int iS, .ref aPa, .int (nI K), .int th, .ref aOu, .int (nI OM), .ref aTx, .int (nI LN), .int (nI PO), .int iw, .int ea, .int fa, .ref aCo, .int (nI CM)]))]) [(am, .inr (12, [.ref aS, .ref aBf, .ref aAs, .ref aSv, .int iS, .ref aPa, .int (nI K), .int 2, .ref aOu, .int (nI OM), .ref aTx, .int (nI LN), .int (nI PO), .int iw, .int ea, .int fa, .ref aCo, .int (nI CM)]))] := hD
      refine lv_aload_n hx hb dX8_type_33 rfl (lv_at hl 0 rfl) ?_
      refine va_get (D := G) (ci := 12) (v := .int 2) (C := RX8) (T := TX8) (N := 18) hx hb hts hi12 hown hK.1 hP 0 rfl rfl 7 (by decide) hf42 (fun _ h9 => h9) rfl dX8_type_34 ?_
      refine lv_if_le (tgt := 42) hx hb dX8_type_37 (by decide) (fun c_5 => ?_) (fun c_5 => ?_)
      · exact absurd c_5 (by decide)
      · refine lv_iconst (v := 0) hx hb dX8_type_40 (by decide) ?_
        exact wc_iret hx hb hr hlocks hP hS rfl dX8_type_41
  · exact absurd c_1 (by decide)

set_option maxRecDepth 100000 in
set_option maxHeartbeats 1000000 in
theorem c_X8_says (l : Launch) (G : va_G) (cy : Nat → ClassId) (am aS aBf aAs aSv aPa aOu aTx aCo K OM LN PO CM : Nat) (iS th iw ea fa x : Int32) (fO : Nat → Int32) (ho9 : OM < 20) (hx9 : vp_nar .char x = x) : WC l yX8_says wsX8_says { frames := 0, cells := 0, slots := 0, locals := 0 } G (PB G cy [(am, .inr (12, [.ref aS, .ref aBf, .ref aAs, .ref aSv, .int iS, .ref aPa, .int (nI K), .int th, .ref aOu, .int (nI OM), .ref aTx, .int (nI LN), .int (nI PO), .int iw, .int ea, .int fa, .ref aCo, .int (nI CM)])), (aOu, .inl (cy 1, 20, .inl fO))]) [.ref am, .int x] [(am, .inr (12, [.ref aS, .ref aBf, .ref aAs, .ref aSv, .int iS, .ref aPa, .int (nI K), .int th, .ref aOu, .int (nI OM), .ref aTx, .int (nI LN), .int (nI PO), .int iw, .int ea, .int fa, .ref aCo, .int (nI CM)])), (aOu, .inl (cy 1, 20, .inl fO))] [(am, .inr (12, [.ref aS, .ref aBf, .ref aAs, .ref aSv, .int iS, .ref aPa, .int (nI K), .int th, .ref aOu, .int (nI (OM + 1)), .ref aTx, .int (nI LN), .int (nI PO), .int iw, .int ea, .int fa, .ref aCo, .int (nI CM)])), (aOu, .inl (cy 1, 20, .inl (wrS fO OM [x])))] (none) := by
  refine WC.ofW (cc := cX8_says) (maxL := 2) (ret := none) (by decide) rfl (Nat.le_of_ble_eq_true rfl) ?_
  intro p e s m below meth c S9 hr hlocks hPB hD hS ls hl
  obtain ⟨hx, hb, hml, hown, hts⟩ := id S9
  obtain ⟨hP, hK⟩ := hPB
  have hl : lv_has ls 2 [(0, .ref am), (1, .int x)] := hl
  have hi12 : ∀ w ∈ wsX80, w ∈ wsX8_says := by decide +kernel
  have hf25 := hts (.fieldLink RX8 25 "BathLeagueModel" "output" "[C") (by decide +kernel)
  have hf176 := hts (.fieldLink RX8 176 "BathLeagueModel" "outputMany" "I") (by decide +kernel)
  refine lv_aload_n hx hb dX8_says_0 rfl (lv_at hl 0 rfl) ?_
  refine va_get (D := G) (ci := 12) (v := .ref aOu) (C := RX8) (T := TX8) (N := 18) hx hb hts hi12 hown hK.1 hP 0 rfl rfl 8 (by decide) hf25 (fun _ h9 => h9) rfl dX8_says_1 ?_
  refine lv_aload_n hx hb dX8_says_4 rfl (lv_at hl 0 rfl) ?_
  refine va_get (D := G) (ci := 12) (v := .int (nI OM)) (C := RX8) (T := TX8) (N := 18) hx hb hts hi12 hown hK.1 hP 0 rfl rfl 9 (by decide) hf176 (fun _ h9 => h9) rfl dX8_says_5 ?_
  refine lv_iload_n hx hb dX8_says_8 rfl (lv_at hl 1 rfl) ?_
  refine m_cast hx hb hK hP hD hS 1 (k := OM) rfl rfl (by omega) (Nat.le_of_ble_eq_true rfl) hx9 dX8_says_9 (fun H locs hP hD hS => ?_)
  have hP : va_P G vwCl [(am, .inr (12, [.ref aS, .ref aBf, .ref aAs, .ref aSv, .int iS, .ref aPa, .int (nI K), .int th, .ref aOu, .int (nI OM), .ref aTx, .int (nI LN), .int (nI PO), .int iw, .int ea, .int fa, .ref aCo, .int (nI CM)])), (aOu, .inl (cy 1, 20, .inl (upd fO OM x)))] H := hP
  have hD : va_D (wA [(am, .inr (12, [.ref aS, .ref aBf, .ref aAs, .ref aSv, .int iS, .ref aPa, .int (nI K), .int th, .ref aOu, .int (nI OM), .ref aTx, .int (nI LN), .int (nI PO), .int iw, .int ea, .int fa, .ref aCo, .int (nI CM)])), (aOu, .inl (cy 1, 20, .inl fO))]) [(am, .inr (12, [.ref aS, .ref aBf, .ref aAs, .ref aSv, .int iS, .ref aPa, .int (nI K), .int th, .ref aOu, .int (nI OM), .ref aTx, .int (nI LN), .int (nI PO), .int iw, .int ea, .int fa, .ref aCo, .int (nI CM)])), (aOu, .inl (cy 1, 20, .inl (upd fO OM x)))] := hD
  refine lv_aload_n hx hb dX8_says_10 rfl (lv_at hl 0 rfl) ?_
  refine lv_dup hx hb dX8_says_11 rfl ?_
  refine va_get (D := G) (ci := 12) (v := .int (nI OM)) (C := RX8) (T := TX8) (N := 18) hx hb hts hi12 hown hK.1 hP 0 rfl rfl 9 (by decide) hf176 (fun _ h9 => h9) rfl dX8_says_12 ?_
  refine lv_iconst (v := 1) hx hb dX8_says_15 (by decide) ?_
  refine lv_iadd hx hb dX8_says_16 ?_
  refine va_put (D := G) (ci := 12) (v := .int ((nI OM) + 1)) (ty := .int) (C := RX8) (T := TX8) (N := 18) hx hb hts hi12 tyX8 tyX8_ok nmX8 hown hK.1 hP hD hS 0 rfl rfl 9 (by decide) hf176 (fun _ h9 => h9) rfl (by decide +kernel) rfl rfl (Nat.le_of_ble_eq_true rfl) dX8_says_17 (fun H locs hP hD hS => ?_)
  have hP : va_P G vwCl [(am, .inr (12, [.ref aS, .ref aBf, .ref aAs, .ref aSv, .int iS, .ref aPa, .int (nI K), .int th, .ref aOu, .int ((nI OM) + 1), .ref aTx, .int (nI LN), .int (nI PO), .int iw, .int ea, .int fa, .ref aCo, .int (nI CM)])), (aOu, .inl (cy 1, 20, .inl (upd fO OM x)))] H := hP
  have hD : va_D (wA [(am, .inr (12, [.ref aS, .ref aBf, .ref aAs, .ref aSv, .int iS, .ref aPa, .int (nI K), .int th, .ref aOu, .int (nI OM), .ref aTx, .int (nI LN), .int (nI PO), .int iw, .int ea, .int fa, .ref aCo, .int (nI CM)])), (aOu, .inl (cy 1, 20, .inl fO))]) [(am, .inr (12, [.ref aS, .ref aBf, .ref aAs, .ref aSv, .int iS, .ref aPa, .int (nI K), .int th, .ref aOu, .int ((nI OM) + 1), .ref aTx, .int (nI LN), .int (nI PO), .int iw, .int ea, .int fa, .ref aCo, .int (nI CM)])), (aOu, .inl (cy 1, 20, .inl (upd fO OM x)))] := hD
  have e_1 : nI (OM + 1) = (nI OM) + 1 := (nI_1 _).symm
  have e_2 : wrS fO OM [x] = upd fO OM x := rfl
  exact wc_vret hx hb hr hlocks (by rw [e_1, e_2]; exact hP) hS dX8_says_20

set_option maxRecDepth 100000 in
set_option maxHeartbeats 1000000 in
theorem c_X8_saysNumber_1 (l : Launch) (G : va_G) (cy : Nat → ClassId) (am aS aBf aAs aSv aPa aOu aTx aCo K OM LN PO CM : Nat) (iS th iw ea fa : Int32) (n : Nat) (fO : Nat → Int32) (hn : n < 10) (ho9 : OM + 1 ≤ 20) : WC l yX8_saysNumber wsX8_saysNumber { frames := 1, cells := 0, slots := 0, locals := 21 } G (PB G cy [(am, .inr (12, [.ref aS, .ref aBf, .ref aAs, .ref aSv, .int iS, .ref aPa, .int (nI K), .int th, .ref aOu, .int (nI OM), .ref aTx, .int (nI LN), .int (nI PO), .int iw, .int ea, .int fa, .ref aCo, .int (nI CM)])), (aOu, .inl (cy 1, 20, .inl fO))]) [.ref am, .int (nI n)] [(am, .inr (12, [.ref aS, .ref aBf, .ref aAs, .ref aSv, .int iS, .ref aPa, .int (nI K), .int th, .ref aOu, .int (nI OM), .ref aTx, .int (nI LN), .int (nI PO), .int iw, .int ea, .int fa, .ref aCo, .int (nI CM)])), (aOu, .inl (cy 1, 20, .inl fO))] [(am, .inr (12, [.ref aS, .ref aBf, .ref aAs, .ref aSv, .int iS, .ref aPa, .int (nI K), .int th, .ref aOu, .int (nI (OM + (dgs n).length)), .ref aTx, .int (nI LN), .int (nI PO), .int iw, .int ea, .int fa, .ref aCo, .int (nI CM)])), (aOu, .inl (cy 1, 20, .inl (wrS fO OM (dgs n))))] (none) := by
  refine WC.ofW (cc := cX8_saysNumber) (maxL := 3) (ret := none) (by decide) rfl (Nat.le_of_ble_eq_true rfl) ?_
  intro p e s m below meth c S9 hr hlocks hPB hD hS ls hl
  obtain ⟨hx, hb, hml, hown, hts⟩ := id S9
  obtain ⟨hP, hK⟩ := hPB
  have hl : lv_has ls 3 [(0, .ref am), (1, .int (nI n))] := hl
  have hma1 := hts (.methodLink RX8 183 Lib.Math.abs.name) (by decide +kernel)
  have hma2 := hts (.static Lib.Math.abs.name) (by decide +kernel)
  have hma3 := hts (.initialized "java/lang/Math") (by decide +kernel)
  have hma4 := hts (.code Lib.Math.abs.name Lib.Math.abs.code 1 (some .int)) (by decide +kernel)
  refine lv_iload_n hx hb dX8_saysNumber_0 rfl (lv_at hl 1 rfl) ?_
  refine lv_if_ge (tgt := 10) hx hb dX8_saysNumber_1 (by decide) (fun c_1 => ?_) (fun c_1 => ?_)
  · have k_2 : 0 ≤ n := (m_leN (a := 0) (b := n) rfl rfl (by omega) (by omega)).mp c_1
    have k_2' : ¬ (n < 0) := by omega
    refine lv_iload_n hx hb dX8_saysNumber_10 rfl (lv_at hl 1 rfl) ?_
    refine va_mabs hx hb (hml.trans hl.1.symm) hown hma1 hma2 hma3 hma4 (Nat.le_of_ble_eq_true rfl) (Nat.le_of_ble_eq_true rfl) (Nat.zero_le _) (Nat.zero_le _) dX8_saysNumber_11 ?_
    refine lv_t0 (show (if 0 ≤ (nI n) then (nI n) else 0 - (nI n)) = nI n from m_abs (by omega)) ?_
    refine lv_istore_n (lv' := [(2, .int (nI n)), (0, .ref am), (1, .int (nI n))]) hx hb dX8_saysNumber_14 rfl hl (by decide) rfl (fun ls hl => ?_)
    refine lv_iload_n hx hb dX8_saysNumber_15 rfl (lv_at hl 0 rfl) ?_
    refine lv_bipush (v := 9) hx hb dX8_saysNumber_16 (by decide) ?_
    refine lv_icmp_le (tgt := 29) hx hb dX8_saysNumber_18 (by decide) (fun c_3 => ?_) (fun c_3 => ?_)
    · have k_4 : n ≤ 9 := (m_leN (a := n) (b := 9) rfl rfl (by omega) (by omega)).mp c_3
      have k_4' : ¬ (9 < n) := by omega
      refine lv_aload_n hx hb dX8_saysNumber_29 rfl (lv_at hl 1 rfl) ?_
      refine lv_bipush (v := 48) hx hb dX8_saysNumber_30 (by decide) ?_
      refine lv_iload_n hx hb dX8_saysNumber_32 rfl (lv_at hl 0 rfl) ?_
      refine lv_bipush (v := 10) hx hb dX8_saysNumber_33 (by decide) ?_
      refine lv_irem hx hb dX8_saysNumber_35 (by decide) ?_
      refine lv_iadd hx hb dX8_saysNumber_36 ?_
      refine lv_i2c (v := nI (48 + n % 10)) hx hb dX8_saysNumber_37 (pk_m10 (by omega)) ?_
      refine c_wcVv (ws' := [(am, .inr (12, [.ref aS, .ref aBf, .ref aAs, .ref aSv, .int iS, .ref aPa, .int (nI K), .int th, .ref aOu, .int (nI (OM + 1)), .ref aTx, .int (nI LN), .int (nI PO), .int iw, .int ea, .int fa, .ref aCo, .int (nI CM)])), (aOu, .inl (cy 1, 20, .inl (wrS fO OM [(nI (48 + n % 10))])))]) S9 (c_X8_says l G cy am aS aBf aAs aSv aPa aOu aTx aCo K OM LN PO CM iS th iw ea fa (nI (48 + n % 10)) fO (by omega) (nar_d (by omega))) (cwV 1 hts gX8_saysNumber_X8_says rfl rfl rfl (by decide +kernel) ⟨Nat.le_of_ble_eq_true rfl, Nat.le_of_ble_eq_true rfl⟩) PB.blind (va_recv hK.1 hP (ci := 12) (q0 := 0) rfl rfl) (PB.at hK (m_Ppart hP [0, 1] rfl)) hP hD hS [0, 1] rfl rfl m_f2 rfl rfl hl.1 rfl (Nat.le_of_ble_eq_true rfl) ⟨Nat.zero_le _, Nat.zero_le _⟩ dX8_saysNumber_38 (fun H locs hP hD hS => ?_)
      have e9 : dgs n = [nI (48 + n)] := if_pos (by omega)
      have e8 : n % 10 = n := by omega
      rw [e8] at hP
      exact wc_vret hx hb hr hlocks (by rw [e9]; exact hP) hS dX8_saysNumber_41
    · have k_5 : ¬ (n ≤ 9) := fun z => c_3 ((m_leN (a := n) (b := 9) rfl rfl (by omega) (by omega)).mpr z)
      have k_5' : 9 < n := by omega
      exfalso; omega
  · have k_6 : ¬ (0 ≤ n) := fun z => c_1 ((m_leN (a := 0) (b := n) rfl rfl (by omega) (by omega)).mpr z)
    have k_6' : n < 0 := by omega
    exfalso; omega

set_option maxRecDepth 100000 in
set_option maxHeartbeats 1000000 in
theorem c_X8_saysNumber_2 (l : Launch) (G : va_G) (cy : Nat → ClassId) (am aS aBf aAs aSv aPa aOu aTx aCo K OM LN PO CM : Nat) (iS th iw ea fa : Int32) (n : Nat) (fO : Nat → Int32) (hn : n < 100) (ho9 : OM + 2 ≤ 20) (hn0 : ¬ n < 10) : WC l yX8_saysNumber wsX8_saysNumber { frames := 2, cells := 0, slots := 0, locals := 43 } G (PB G cy [(am, .inr (12, [.ref aS, .ref aBf, .ref aAs, .ref aSv, .int iS, .ref aPa, .int (nI K), .int th, .ref aOu, .int (nI OM), .ref aTx, .int (nI LN), .int (nI PO), .int iw, .int ea, .int fa, .ref aCo, .int (nI CM)])), (aOu, .inl (cy 1, 20, .inl fO))]) [.ref am, .int (nI n)] [(am, .inr (12, [.ref aS, .ref aBf, .ref aAs, .ref aSv, .int iS, .ref aPa, .int (nI K), .int th, .ref aOu, .int (nI OM), .ref aTx, .int (nI LN), .int (nI PO), .int iw, .int ea, .int fa, .ref aCo, .int (nI CM)])), (aOu, .inl (cy 1, 20, .inl fO))] [(am, .inr (12, [.ref aS, .ref aBf, .ref aAs, .ref aSv, .int iS, .ref aPa, .int (nI K), .int th, .ref aOu, .int (nI (OM + (dgs n).length)), .ref aTx, .int (nI LN), .int (nI PO), .int iw, .int ea, .int fa, .ref aCo, .int (nI CM)])), (aOu, .inl (cy 1, 20, .inl (wrS fO OM (dgs n))))] (none) := by
  refine WC.ofW (cc := cX8_saysNumber) (maxL := 3) (ret := none) (by decide) rfl (Nat.le_of_ble_eq_true rfl) ?_
  intro p e s m below meth c S9 hr hlocks hPB hD hS ls hl
  obtain ⟨hx, hb, hml, hown, hts⟩ := id S9
  obtain ⟨hP, hK⟩ := hPB
  have hl : lv_has ls 3 [(0, .ref am), (1, .int (nI n))] := hl
  have hma1 := hts (.methodLink RX8 183 Lib.Math.abs.name) (by decide +kernel)
  have hma2 := hts (.static Lib.Math.abs.name) (by decide +kernel)
  have hma3 := hts (.initialized "java/lang/Math") (by decide +kernel)
  have hma4 := hts (.code Lib.Math.abs.name Lib.Math.abs.code 1 (some .int)) (by decide +kernel)
  have hl1 : (dgs (n / 10)).length = 1 := by rw [show dgs (n / 10) = [nI (48 + n / 10)] from if_pos (by omega)]; rfl
  refine lv_iload_n hx hb dX8_saysNumber_0 rfl (lv_at hl 1 rfl) ?_
  refine lv_if_ge (tgt := 10) hx hb dX8_saysNumber_1 (by decide) (fun c_1 => ?_) (fun c_1 => ?_)
  · have k_2 : 0 ≤ n := (m_leN (a := 0) (b := n) rfl rfl (by omega) (by omega)).mp c_1
    have k_2' : ¬ (n < 0) := by omega
    refine lv_iload_n hx hb dX8_saysNumber_10 rfl (lv_at hl 1 rfl) ?_
    refine va_mabs hx hb (hml.trans hl.1.symm) hown hma1 hma2 hma3 hma4 (Nat.le_of_ble_eq_true rfl) (Nat.le_of_ble_eq_true rfl) (Nat.zero_le _) (Nat.zero_le _) dX8_saysNumber_11 ?_
    refine lv_t0 (show (if 0 ≤ (nI n) then (nI n) else 0 - (nI n)) = nI n from m_abs (by omega)) ?_
    refine lv_istore_n (lv' := [(2, .int (nI n)), (0, .ref am), (1, .int (nI n))]) hx hb dX8_saysNumber_14 rfl hl (by decide) rfl (fun ls hl => ?_)
    refine lv_iload_n hx hb dX8_saysNumber_15 rfl (lv_at hl 0 rfl) ?_
    refine lv_bipush (v := 9) hx hb dX8_saysNumber_16 (by decide) ?_
    refine lv_icmp_le (tgt := 29) hx hb dX8_saysNumber_18 (by decide) (fun c_3 => ?_) (fun c_3 => ?_)
    · have k_4 : n ≤ 9 := (m_leN (a := n) (b := 9) rfl rfl (by omega) (by omega)).mp c_3
      have k_4' : ¬ (9 < n) := by omega
      exfalso; omega
    · have k_5 : ¬ (n ≤ 9) := fun z => c_3 ((m_leN (a := n) (b := 9) rfl rfl (by omega) (by omega)).mpr z)
      have k_5' : 9 < n := by omega
      refine lv_aload_n hx hb dX8_saysNumber_21 rfl (lv_at hl 1 rfl) ?_
      refine lv_iload_n hx hb dX8_saysNumber_22 rfl (lv_at hl 0 rfl) ?_
      refine lv_bipush (v := 10) hx hb dX8_saysNumber_23 (by decide) ?_
      refine lv_idiv hx hb dX8_saysNumber_25 (by decide) ?_
      refine lv_t0 (pk_d10 (by omega)) ?_
      refine c_wcVv (ws' := [(am, .inr (12, [.ref aS, .ref aBf, .ref aAs, .ref aSv, .int iS, .ref aPa, .int (nI K), .int th, .ref aOu, .int (nI (OM + (dgs (n / 10)).length)), .ref aTx, .int (nI LN), .int (nI PO), .int iw, .int ea, .int fa, .ref aCo, .int (nI CM)])), (aOu, .inl (cy 1, 20, .inl (wrS fO OM (dgs (n / 10)))))]) S9 (c_X8_saysNumber_1 l G cy am aS aBf aAs aSv aPa aOu aTx aCo K OM LN PO CM iS th iw ea fa (n / 10) fO (by omega) (by omega)) (cwV 1 hts gX8_saysNumber_X8_saysNumber rfl rfl rfl (by decide +kernel) ⟨Nat.le_of_ble_eq_true rfl, Nat.le_of_ble_eq_true rfl⟩) PB.blind (va_recv hK.1 hP (ci := 12) (q0 := 0) rfl rfl) (PB.at hK (m_Ppart hP [0, 1] rfl)) hP hD hS [0, 1] rfl rfl m_f2 rfl rfl hl.1 rfl (Nat.le_of_ble_eq_true rfl) ⟨Nat.zero_le _, Nat.zero_le _⟩ dX8_saysNumber_26 (fun H locs hP hD hS => ?_)
      refine lv_aload_n hx hb dX8_saysNumber_29 rfl (lv_at hl 1 rfl) ?_
      refine lv_bipush (v := 48) hx hb dX8_saysNumber_30 (by decide) ?_
      refine lv_iload_n hx hb dX8_saysNumber_32 rfl (lv_at hl 0 rfl) ?_
      refine lv_bipush (v := 10) hx hb dX8_saysNumber_33 (by decide) ?_
      refine lv_irem hx hb dX8_saysNumber_35 (by decide) ?_
      refine lv_iadd hx hb dX8_saysNumber_36 ?_
      refine lv_i2c (v := nI (48 + n % 10)) hx hb dX8_saysNumber_37 (pk_m10 (by omega)) ?_
      refine c_wcVv (ws' := [(am, .inr (12, [.ref aS, .ref aBf, .ref aAs, .ref aSv, .int iS, .ref aPa, .int (nI K), .int th, .ref aOu, .int (nI ((OM + (dgs (n / 10)).length) + 1)), .ref aTx, .int (nI LN), .int (nI PO), .int iw, .int ea, .int fa, .ref aCo, .int (nI CM)])), (aOu, .inl (cy 1, 20, .inl (wrS (wrS fO OM (dgs (n / 10))) (OM + (dgs (n / 10)).length) [(nI (48 + n % 10))])))]) S9 (c_X8_says l G cy am aS aBf aAs aSv aPa aOu aTx aCo K (OM + (dgs (n / 10)).length) LN PO CM iS th iw ea fa (nI (48 + n % 10)) (wrS fO OM (dgs (n / 10))) (by omega) (nar_d (by omega))) (cwV 1 hts gX8_saysNumber_X8_says rfl rfl rfl (by decide +kernel) ⟨Nat.le_of_ble_eq_true rfl, Nat.le_of_ble_eq_true rfl⟩) PB.blind (va_recv hK.1 hP (ci := 12) (q0 := 0) rfl rfl) (PB.at hK (m_Ppart hP [0, 1] rfl)) hP hD hS [0, 1] rfl rfl m_f2 rfl rfl hl.1 rfl (Nat.le_of_ble_eq_true rfl) ⟨Nat.zero_le _, Nat.zero_le _⟩ dX8_saysNumber_38 (fun H locs hP hD hS => ?_)
      have e9 : dgs n = [nI (48 + n / 10), nI (48 + n % 10)] := (if_neg (by omega)).trans (if_pos (by omega))
      have e8 : dgs (n / 10) = [nI (48 + n / 10)] := if_pos (by omega)
      rw [e8] at hP
      exact wc_vret hx hb hr hlocks (by rw [e9]; exact hP) hS dX8_saysNumber_41
  · have k_6 : ¬ (0 ≤ n) := fun z => c_1 ((m_leN (a := 0) (b := n) rfl rfl (by omega) (by omega)).mpr z)
    have k_6' : n < 0 := by omega
    exfalso; omega

set_option maxRecDepth 100000 in
set_option maxHeartbeats 1000000 in
theorem c_X8_saysNumber_3 (l : Launch) (G : va_G) (cy : Nat → ClassId) (am aS aBf aAs aSv aPa aOu aTx aCo K OM LN PO CM : Nat) (iS th iw ea fa : Int32) (n : Nat) (fO : Nat → Int32) (hn : n < 1000) (ho9 : OM + 3 ≤ 20) (hn0 : ¬ n < 100) : WC l yX8_saysNumber wsX8_saysNumber { frames := 3, cells := 0, slots := 0, locals := 65 } G (PB G cy [(am, .inr (12, [.ref aS, .ref aBf, .ref aAs, .ref aSv, .int iS, .ref aPa, .int (nI K), .int th, .ref aOu, .int (nI OM), .ref aTx, .int (nI LN), .int (nI PO), .int iw, .int ea, .int fa, .ref aCo, .int (nI CM)])), (aOu, .inl (cy 1, 20, .inl fO))]) [.ref am, .int (nI n)] [(am, .inr (12, [.ref aS, .ref aBf, .ref aAs, .ref aSv, .int iS, .ref aPa, .int (nI K), .int th, .ref aOu, .int (nI OM), .ref aTx, .int (nI LN), .int (nI PO), .int iw, .int ea, .int fa, .ref aCo, .int (nI CM)])), (aOu, .inl (cy 1, 20, .inl fO))] [(am, .inr (12, [.ref aS, .ref aBf, .ref aAs, .ref aSv, .int iS, .ref aPa, .int (nI K), .int th, .ref aOu, .int (nI (OM + (dgs n).length)), .ref aTx, .int (nI LN), .int (nI PO), .int iw, .int ea, .int fa, .ref aCo, .int (nI CM)])), (aOu, .inl (cy 1, 20, .inl (wrS fO OM (dgs n))))] (none) := by
  refine WC.ofW (cc := cX8_saysNumber) (maxL := 3) (ret := none) (by decide) rfl (Nat.le_of_ble_eq_true rfl) ?_
  intro p e s m below meth c S9 hr hlocks hPB hD hS ls hl
  obtain ⟨hx, hb, hml, hown, hts⟩ := id S9
  obtain ⟨hP, hK⟩ := hPB
  have hl : lv_has ls 3 [(0, .ref am), (1, .int (nI n))] := hl
  have hma1 := hts (.methodLink RX8 183 Lib.Math.abs.name) (by decide +kernel)
  have hma2 := hts (.static Lib.Math.abs.name) (by decide +kernel)
  have hma3 := hts (.initialized "java/lang/Math") (by decide +kernel)
  have hma4 := hts (.code Lib.Math.abs.name Lib.Math.abs.code 1 (some .int)) (by decide +kernel)
  have hl1 : (dgs (n / 10)).length = 2 := by rw [show dgs (n / 10) = [nI (48 + n / 10 / 10), nI (48 + n / 10 % 10)] from (if_neg (by omega)).trans (if_pos (by omega))]; rfl
  refine lv_iload_n hx hb dX8_saysNumber_0 rfl (lv_at hl 1 rfl) ?_
  refine lv_if_ge (tgt := 10) hx hb dX8_saysNumber_1 (by decide) (fun c_1 => ?_) (fun c_1 => ?_)
  · have k_2 : 0 ≤ n := (m_leN (a := 0) (b := n) rfl rfl (by omega) (by omega)).mp c_1
    have k_2' : ¬ (n < 0) := by omega
    refine lv_iload_n hx hb dX8_saysNumber_10 rfl (lv_at hl 1 rfl) ?_
    refine va_mabs hx hb (hml.trans hl.1.symm) hown hma1 hma2 hma3 hma4 (Nat.le_of_ble_eq_true rfl) (Nat.le_of_ble_eq_true rfl) (Nat.zero_le _) (Nat.zero_le _) dX8_saysNumber_11 ?_
    refine lv_t0 (show (if 0 ≤ (nI n) then (nI n) else 0 - (nI n)) = nI n from m_abs (by omega)) ?_
    refine lv_istore_n (lv' := [(2, .int (nI n)), (0, .ref am), (1, .int (nI n))]) hx hb dX8_saysNumber_14 rfl hl (by decide) rfl (fun ls hl => ?_)
    refine lv_iload_n hx hb dX8_saysNumber_15 rfl (lv_at hl 0 rfl) ?_
    refine lv_bipush (v := 9) hx hb dX8_saysNumber_16 (by decide) ?_
    refine lv_icmp_le (tgt := 29) hx hb dX8_saysNumber_18 (by decide) (fun c_3 => ?_) (fun c_3 => ?_)
    · have k_4 : n ≤ 9 := (m_leN (a := n) (b := 9) rfl rfl (by omega) (by omega)).mp c_3
      have k_4' : ¬ (9 < n) := by omega
      exfalso; omega
    · have k_5 : ¬ (n ≤ 9) := fun z => c_3 ((m_leN (a := n) (b := 9) rfl rfl (by omega) (by omega)).mpr z)
      have k_5' : 9 < n := by omega
      refine lv_aload_n hx hb dX8_saysNumber_21 rfl (lv_at hl 1 rfl) ?_
      refine lv_iload_n hx hb dX8_saysNumber_22 rfl (lv_at hl 0 rfl) ?_
      refine lv_bipush (v := 10) hx hb dX8_saysNumber_23 (by decide) ?_
      refine lv_idiv hx hb dX8_saysNumber_25 (by decide) ?_
      refine lv_t0 (pk_d10 (by omega)) ?_
      refine c_wcVv (ws' := [(am, .inr (12, [.ref aS, .ref aBf, .ref aAs, .ref aSv, .int iS, .ref aPa, .int (nI K), .int th, .ref aOu, .int (nI (OM + (dgs (n / 10)).length)), .ref aTx, .int (nI LN), .int (nI PO), .int iw, .int ea, .int fa, .ref aCo, .int (nI CM)])), (aOu, .inl (cy 1, 20, .inl (wrS fO OM (dgs (n / 10)))))]) S9 (c_X8_saysNumber_2 l G cy am aS aBf aAs aSv aPa aOu aTx aCo K OM LN PO CM iS th iw ea fa (n / 10) fO (by omega) (by omega) (by omega)) (cwV 1 hts gX8_saysNumber_X8_saysNumber rfl rfl rfl (by decide +kernel) ⟨Nat.le_of_ble_eq_true rfl, Nat.le_of_ble_eq_true rfl⟩) PB.blind (va_recv hK.1 hP (ci := 12) (q0 := 0) rfl rfl) (PB.at hK (m_Ppart hP [0, 1] rfl)) hP hD hS [0, 1] rfl rfl m_f2 rfl rfl hl.1 rfl (Nat.le_of_ble_eq_true rfl) ⟨Nat.zero_le _, Nat.zero_le _⟩ dX8_saysNumber_26 (fun H locs hP hD hS => ?_)
      refine lv_aload_n hx hb dX8_saysNumber_29 rfl (lv_at hl 1 rfl) ?_
      refine lv_bipush (v := 48) hx hb dX8_saysNumber_30 (by decide) ?_
      refine lv_iload_n hx hb dX8_saysNumber_32 rfl (lv_at hl 0 rfl) ?_
      refine lv_bipush (v := 10) hx hb dX8_saysNumber_33 (by decide) ?_
      refine lv_irem hx hb dX8_saysNumber_35 (by decide) ?_
      refine lv_iadd hx hb dX8_saysNumber_36 ?_
      refine lv_i2c (v := nI (48 + n % 10)) hx hb dX8_saysNumber_37 (pk_m10 (by omega)) ?_
      refine c_wcVv (ws' := [(am, .inr (12, [.ref aS, .ref aBf, .ref aAs, .ref aSv, .int iS, .ref aPa, .int (nI K), .int th, .ref aOu, .int (nI ((OM + (dgs (n / 10)).length) + 1)), .ref aTx, .int (nI LN), .int (nI PO), .int iw, .int ea, .int fa, .ref aCo, .int (nI CM)])), (aOu, .inl (cy 1, 20, .inl (wrS (wrS fO OM (dgs (n / 10))) (OM + (dgs (n / 10)).length) [(nI (48 + n % 10))])))]) S9 (c_X8_says l G cy am aS aBf aAs aSv aPa aOu aTx aCo K (OM + (dgs (n / 10)).length) LN PO CM iS th iw ea fa (nI (48 + n % 10)) (wrS fO OM (dgs (n / 10))) (by omega) (nar_d (by omega))) (cwV 1 hts gX8_saysNumber_X8_says rfl rfl rfl (by decide +kernel) ⟨Nat.le_of_ble_eq_true rfl, Nat.le_of_ble_eq_true rfl⟩) PB.blind (va_recv hK.1 hP (ci := 12) (q0 := 0) rfl rfl) (PB.at hK (m_Ppart hP [0, 1] rfl)) hP hD hS [0, 1] rfl rfl m_f2 rfl rfl hl.1 rfl (Nat.le_of_ble_eq_true rfl) ⟨Nat.zero_le _, Nat.zero_le _⟩ dX8_saysNumber_38 (fun H locs hP hD hS => ?_)
      have e9 : dgs n = [nI (48 + n / 10 / 10), nI (48 + n / 10 % 10), nI (48 + n % 10)] := (if_neg (by omega)).trans (if_neg (by omega))
      have e8 : dgs (n / 10) = [nI (48 + n / 10 / 10), nI (48 + n / 10 % 10)] := (if_neg (by omega)).trans (if_pos (by omega))
      rw [e8] at hP
      exact wc_vret hx hb hr hlocks (by rw [e9]; exact hP) hS dX8_saysNumber_41
  · have k_6 : ¬ (0 ≤ n) := fun z => c_1 ((m_leN (a := 0) (b := n) rfl rfl (by omega) (by omega)).mpr z)
    have k_6' : n < 0 := by omega
    exfalso; omega

set_option maxRecDepth 100000 in
set_option maxHeartbeats 1000000 in
theorem c_X8_saysNumber_1b (l : Launch) (G : va_G) (cy : Nat → ClassId) (am aS aBf aAs aSv aPa aOu aTx aCo K OM LN PO CM : Nat) (iS th iw ea fa : Int32) (n : Nat) (fO : Nat → Int32) (hn : n < 10) (ho9 : OM + 1 ≤ 20) : WC l yX8_saysNumber wsX8_saysNumber { frames := 3, cells := 0, slots := 0, locals := 65 } G (PB G cy [(am, .inr (12, [.ref aS, .ref aBf, .ref aAs, .ref aSv, .int iS, .ref aPa, .int (nI K), .int th, .ref aOu, .int (nI OM), .ref aTx, .int (nI LN), .int (nI PO), .int iw, .int ea, .int fa, .ref aCo, .int (nI CM)])), (aOu, .inl (cy 1, 20, .inl fO))]) [.ref am, .int (nI n)] [(am, .inr (12, [.ref aS, .ref aBf, .ref aAs, .ref aSv, .int iS, .ref aPa, .int (nI K), .int th, .ref aOu, .int (nI OM), .ref aTx, .int (nI LN), .int (nI PO), .int iw, .int ea, .int fa, .ref aCo, .int (nI CM)])), (aOu, .inl (cy 1, 20, .inl fO))] [(am, .inr (12, [.ref aS, .ref aBf, .ref aAs, .ref aSv, .int iS, .ref aPa, .int (nI K), .int th, .ref aOu, .int (nI (OM + (dgs n).length)), .ref aTx, .int (nI LN), .int (nI PO), .int iw, .int ea, .int fa, .ref aCo, .int (nI CM)])), (aOu, .inl (cy 1, 20, .inl (wrS fO OM (dgs n))))] (none) := by
  refine WC.ofW (cc := cX8_saysNumber) (maxL := 3) (ret := none) (by decide) rfl (Nat.le_of_ble_eq_true rfl) ?_
  intro p e s m below meth c S9 hr hlocks hPB hD hS ls hl
  obtain ⟨hx, hb, hml, hown, hts⟩ := id S9
  obtain ⟨hP, hK⟩ := hPB
  have hl : lv_has ls 3 [(0, .ref am), (1, .int (nI n))] := hl
  have hma1 := hts (.methodLink RX8 183 Lib.Math.abs.name) (by decide +kernel)
  have hma2 := hts (.static Lib.Math.abs.name) (by decide +kernel)
  have hma3 := hts (.initialized "java/lang/Math") (by decide +kernel)
  have hma4 := hts (.code Lib.Math.abs.name Lib.Math.abs.code 1 (some .int)) (by decide +kernel)
  refine lv_iload_n hx hb dX8_saysNumber_0 rfl (lv_at hl 1 rfl) ?_
  refine lv_if_ge (tgt := 10) hx hb dX8_saysNumber_1 (by decide) (fun c_1 => ?_) (fun c_1 => ?_)
  · have k_2 : 0 ≤ n := (m_leN (a := 0) (b := n) rfl rfl (by omega) (by omega)).mp c_1
    have k_2' : ¬ (n < 0) := by omega
    refine lv_iload_n hx hb dX8_saysNumber_10 rfl (lv_at hl 1 rfl) ?_
    refine va_mabs hx hb (hml.trans hl.1.symm) hown hma1 hma2 hma3 hma4 (Nat.le_of_ble_eq_true rfl) (Nat.le_of_ble_eq_true rfl) (Nat.zero_le _) (Nat.zero_le _) dX8_saysNumber_11 ?_
    refine lv_t0 (show (if 0 ≤ (nI n) then (nI n) else 0 - (nI n)) = nI n from m_abs (by omega)) ?_
    refine lv_istore_n (lv' := [(2, .int (nI n)), (0, .ref am), (1, .int (nI n))]) hx hb dX8_saysNumber_14 rfl hl (by decide) rfl (fun ls hl => ?_)
    refine lv_iload_n hx hb dX8_saysNumber_15 rfl (lv_at hl 0 rfl) ?_
    refine lv_bipush (v := 9) hx hb dX8_saysNumber_16 (by decide) ?_
    refine lv_icmp_le (tgt := 29) hx hb dX8_saysNumber_18 (by decide) (fun c_3 => ?_) (fun c_3 => ?_)
    · have k_4 : n ≤ 9 := (m_leN (a := n) (b := 9) rfl rfl (by omega) (by omega)).mp c_3
      have k_4' : ¬ (9 < n) := by omega
      refine lv_aload_n hx hb dX8_saysNumber_29 rfl (lv_at hl 1 rfl) ?_
      refine lv_bipush (v := 48) hx hb dX8_saysNumber_30 (by decide) ?_
      refine lv_iload_n hx hb dX8_saysNumber_32 rfl (lv_at hl 0 rfl) ?_
      refine lv_bipush (v := 10) hx hb dX8_saysNumber_33 (by decide) ?_
      refine lv_irem hx hb dX8_saysNumber_35 (by decide) ?_
      refine lv_iadd hx hb dX8_saysNumber_36 ?_
      refine lv_i2c (v := nI (48 + n % 10)) hx hb dX8_saysNumber_37 (pk_m10 (by omega)) ?_
      refine c_wcVv (ws' := [(am, .inr (12, [.ref aS, .ref aBf, .ref aAs, .ref aSv, .int iS, .ref aPa, .int (nI K), .int th, .ref aOu, .int (nI (OM + 1)), .ref aTx, .int (nI LN), .int (nI PO), .int iw, .int ea, .int fa, .ref aCo, .int (nI CM)])), (aOu, .inl (cy 1, 20, .inl (wrS fO OM [(nI (48 + n % 10))])))]) S9 (c_X8_says l G cy am aS aBf aAs aSv aPa aOu aTx aCo K OM LN PO CM iS th iw ea fa (nI (48 + n % 10)) fO (by omega) (nar_d (by omega))) (cwV 1 hts gX8_saysNumber_X8_says rfl rfl rfl (by decide +kernel) ⟨Nat.le_of_ble_eq_true rfl, Nat.le_of_ble_eq_true rfl⟩) PB.blind (va_recv hK.1 hP (ci := 12) (q0 := 0) rfl rfl) (PB.at hK (m_Ppart hP [0, 1] rfl)) hP hD hS [0, 1] rfl rfl m_f2 rfl rfl hl.1 rfl (Nat.le_of_ble_eq_true rfl) ⟨Nat.zero_le _, Nat.zero_le _⟩ dX8_saysNumber_38 (fun H locs hP hD hS => ?_)
      have e9 : dgs n = [nI (48 + n)] := if_pos (by omega)
      have e8 : n % 10 = n := by omega
      rw [e8] at hP
      exact wc_vret hx hb hr hlocks (by rw [e9]; exact hP) hS dX8_saysNumber_41
    · have k_5 : ¬ (n ≤ 9) := fun z => c_3 ((m_leN (a := n) (b := 9) rfl rfl (by omega) (by omega)).mpr z)
      have k_5' : 9 < n := by omega
      exfalso; omega
  · have k_6 : ¬ (0 ≤ n) := fun z => c_1 ((m_leN (a := 0) (b := n) rfl rfl (by omega) (by omega)).mpr z)
    have k_6' : n < 0 := by omega
    exfalso; omega

set_option maxRecDepth 100000 in
set_option maxHeartbeats 1000000 in
theorem c_X8_saysNumber_2b (l : Launch) (G : va_G) (cy : Nat → ClassId) (am aS aBf aAs aSv aPa aOu aTx aCo K OM LN PO CM : Nat) (iS th iw ea fa : Int32) (n : Nat) (fO : Nat → Int32) (hn : n < 100) (ho9 : OM + 2 ≤ 20) (hn0 : ¬ n < 10) : WC l yX8_saysNumber wsX8_saysNumber { frames := 3, cells := 0, slots := 0, locals := 65 } G (PB G cy [(am, .inr (12, [.ref aS, .ref aBf, .ref aAs, .ref aSv, .int iS, .ref aPa, .int (nI K), .int th, .ref aOu, .int (nI OM), .ref aTx, .int (nI LN), .int (nI PO), .int iw, .int ea, .int fa, .ref aCo, .int (nI CM)])), (aOu, .inl (cy 1, 20, .inl fO))]) [.ref am, .int (nI n)] [(am, .inr (12, [.ref aS, .ref aBf, .ref aAs, .ref aSv, .int iS, .ref aPa, .int (nI K), .int th, .ref aOu, .int (nI OM), .ref aTx, .int (nI LN), .int (nI PO), .int iw, .int ea, .int fa, .ref aCo, .int (nI CM)])), (aOu, .inl (cy 1, 20, .inl fO))] [(am, .inr (12, [.ref aS, .ref aBf, .ref aAs, .ref aSv, .int iS, .ref aPa, .int (nI K), .int th, .ref aOu, .int (nI (OM + (dgs n).length)), .ref aTx, .int (nI LN), .int (nI PO), .int iw, .int ea, .int fa, .ref aCo, .int (nI CM)])), (aOu, .inl (cy 1, 20, .inl (wrS fO OM (dgs n))))] (none) := by
  refine WC.ofW (cc := cX8_saysNumber) (maxL := 3) (ret := none) (by decide) rfl (Nat.le_of_ble_eq_true rfl) ?_
  intro p e s m below meth c S9 hr hlocks hPB hD hS ls hl
  obtain ⟨hx, hb, hml, hown, hts⟩ := id S9
  obtain ⟨hP, hK⟩ := hPB
  have hl : lv_has ls 3 [(0, .ref am), (1, .int (nI n))] := hl
  have hma1 := hts (.methodLink RX8 183 Lib.Math.abs.name) (by decide +kernel)
  have hma2 := hts (.static Lib.Math.abs.name) (by decide +kernel)
  have hma3 := hts (.initialized "java/lang/Math") (by decide +kernel)
  have hma4 := hts (.code Lib.Math.abs.name Lib.Math.abs.code 1 (some .int)) (by decide +kernel)
  have hl1 : (dgs (n / 10)).length = 1 := by rw [show dgs (n / 10) = [nI (48 + n / 10)] from if_pos (by omega)]; rfl
  refine lv_iload_n hx hb dX8_saysNumber_0 rfl (lv_at hl 1 rfl) ?_
  refine lv_if_ge (tgt := 10) hx hb dX8_saysNumber_1 (by decide) (fun c_1 => ?_) (fun c_1 => ?_)
  · have k_2 : 0 ≤ n := (m_leN (a := 0) (b := n) rfl rfl (by omega) (by omega)).mp c_1
    have k_2' : ¬ (n < 0) := by omega
    refine lv_iload_n hx hb dX8_saysNumber_10 rfl (lv_at hl 1 rfl) ?_
    refine va_mabs hx hb (hml.trans hl.1.symm) hown hma1 hma2 hma3 hma4 (Nat.le_of_ble_eq_true rfl) (Nat.le_of_ble_eq_true rfl) (Nat.zero_le _) (Nat.zero_le _) dX8_saysNumber_11 ?_
    refine lv_t0 (show (if 0 ≤ (nI n) then (nI n) else 0 - (nI n)) = nI n from m_abs (by omega)) ?_
    refine lv_istore_n (lv' := [(2, .int (nI n)), (0, .ref am), (1, .int (nI n))]) hx hb dX8_saysNumber_14 rfl hl (by decide) rfl (fun ls hl => ?_)
    refine lv_iload_n hx hb dX8_saysNumber_15 rfl (lv_at hl 0 rfl) ?_
    refine lv_bipush (v := 9) hx hb dX8_saysNumber_16 (by decide) ?_
    refine lv_icmp_le (tgt := 29) hx hb dX8_saysNumber_18 (by decide) (fun c_3 => ?_) (fun c_3 => ?_)
    · have k_4 : n ≤ 9 := (m_leN (a := n) (b := 9) rfl rfl (by omega) (by omega)).mp c_3
      have k_4' : ¬ (9 < n) := by omega
      exfalso; omega
    · have k_5 : ¬ (n ≤ 9) := fun z => c_3 ((m_leN (a := n) (b := 9) rfl rfl (by omega) (by omega)).mpr z)
      have k_5' : 9 < n := by omega
      refine lv_aload_n hx hb dX8_saysNumber_21 rfl (lv_at hl 1 rfl) ?_
      refine lv_iload_n hx hb dX8_saysNumber_22 rfl (lv_at hl 0 rfl) ?_
      refine lv_bipush (v := 10) hx hb dX8_saysNumber_23 (by decide) ?_
      refine lv_idiv hx hb dX8_saysNumber_25 (by decide) ?_
      refine lv_t0 (pk_d10 (by omega)) ?_
      refine c_wcVv (ws' := [(am, .inr (12, [.ref aS, .ref aBf, .ref aAs, .ref aSv, .int iS, .ref aPa, .int (nI K), .int th, .ref aOu, .int (nI (OM + (dgs (n / 10)).length)), .ref aTx, .int (nI LN), .int (nI PO), .int iw, .int ea, .int fa, .ref aCo, .int (nI CM)])), (aOu, .inl (cy 1, 20, .inl (wrS fO OM (dgs (n / 10)))))]) S9 (c_X8_saysNumber_1 l G cy am aS aBf aAs aSv aPa aOu aTx aCo K OM LN PO CM iS th iw ea fa (n / 10) fO (by omega) (by omega)) (cwV 1 hts gX8_saysNumber_X8_saysNumber rfl rfl rfl (by decide +kernel) ⟨Nat.le_of_ble_eq_true rfl, Nat.le_of_ble_eq_true rfl⟩) PB.blind (va_recv hK.1 hP (ci := 12) (q0 := 0) rfl rfl) (PB.at hK (m_Ppart hP [0, 1] rfl)) hP hD hS [0, 1] rfl rfl m_f2 rfl rfl hl.1 rfl (Nat.le_of_ble_eq_true rfl) ⟨Nat.zero_le _, Nat.zero_le _⟩ dX8_saysNumber_26 (fun H locs hP hD hS => ?_)
      refine lv_aload_n hx hb dX8_saysNumber_29 rfl (lv_at hl 1 rfl) ?_
      refine lv_bipush (v := 48) hx hb dX8_saysNumber_30 (by decide) ?_
      refine lv_iload_n hx hb dX8_saysNumber_32 rfl (lv_at hl 0 rfl) ?_
      refine lv_bipush (v := 10) hx hb dX8_saysNumber_33 (by decide) ?_
      refine lv_irem hx hb dX8_saysNumber_35 (by decide) ?_
      refine lv_iadd hx hb dX8_saysNumber_36 ?_
      refine lv_i2c (v := nI (48 + n % 10)) hx hb dX8_saysNumber_37 (pk_m10 (by omega)) ?_
      refine c_wcVv (ws' := [(am, .inr (12, [.ref aS, .ref aBf, .ref aAs, .ref aSv, .int iS, .ref aPa, .int (nI K), .int th, .ref aOu, .int (nI ((OM + (dgs (n / 10)).length) + 1)), .ref aTx, .int (nI LN), .int (nI PO), .int iw, .int ea, .int fa, .ref aCo, .int (nI CM)])), (aOu, .inl (cy 1, 20, .inl (wrS (wrS fO OM (dgs (n / 10))) (OM + (dgs (n / 10)).length) [(nI (48 + n % 10))])))]) S9 (c_X8_says l G cy am aS aBf aAs aSv aPa aOu aTx aCo K (OM + (dgs (n / 10)).length) LN PO CM iS th iw ea fa (nI (48 + n % 10)) (wrS fO OM (dgs (n / 10))) (by omega) (nar_d (by omega))) (cwV 1 hts gX8_saysNumber_X8_says rfl rfl rfl (by decide +kernel) ⟨Nat.le_of_ble_eq_true rfl, Nat.le_of_ble_eq_true rfl⟩) PB.blind (va_recv hK.1 hP (ci := 12) (q0 := 0) rfl rfl) (PB.at hK (m_Ppart hP [0, 1] rfl)) hP hD hS [0, 1] rfl rfl m_f2 rfl rfl hl.1 rfl (Nat.le_of_ble_eq_true rfl) ⟨Nat.zero_le _, Nat.zero_le _⟩ dX8_saysNumber_38 (fun H locs hP hD hS => ?_)
      have e9 : dgs n = [nI (48 + n / 10), nI (48 + n % 10)] := (if_neg (by omega)).trans (if_pos (by omega))
      have e8 : dgs (n / 10) = [nI (48 + n / 10)] := if_pos (by omega)
      rw [e8] at hP
      exact wc_vret hx hb hr hlocks (by rw [e9]; exact hP) hS dX8_saysNumber_41
  · have k_6 : ¬ (0 ≤ n) := fun z => c_1 ((m_leN (a := 0) (b := n) rfl rfl (by omega) (by omega)).mpr z)
    have k_6' : n < 0 := by omega
    exfalso; omega

theorem c_X8_saysNumber (l : Launch) (G : va_G) (cy : Nat → ClassId) (am aS aBf aAs aSv aPa aOu aTx aCo K OM LN PO CM : Nat) (iS th iw ea fa : Int32) (n : Nat) (fO : Nat → Int32) (hn : n < 1000) (ho9 : OM + 3 ≤ 20) : WC l yX8_saysNumber wsX8_saysNumber { frames := 3, cells := 0, slots := 0, locals := 65 } G (PB G cy [(am, .inr (12, [.ref aS, .ref aBf, .ref aAs, .ref aSv, .int iS, .ref aPa, .int (nI K), .int th, .ref aOu, .int (nI OM), .ref aTx, .int (nI LN), .int (nI PO), .int iw, .int ea, .int fa, .ref aCo, .int (nI CM)])), (aOu, .inl (cy 1, 20, .inl fO))]) [.ref am, .int (nI n)] [(am, .inr (12, [.ref aS, .ref aBf, .ref aAs, .ref aSv, .int iS, .ref aPa, .int (nI K), .int th, .ref aOu, .int (nI OM), .ref aTx, .int (nI LN), .int (nI PO), .int iw, .int ea, .int fa, .ref aCo, .int (nI CM)])), (aOu, .inl (cy 1, 20, .inl fO))] [(am, .inr (12, [.ref aS, .ref aBf, .ref aAs, .ref aSv, .int iS, .ref aPa, .int (nI K), .int th, .ref aOu, .int (nI (OM + (dgs n).length)), .ref aTx, .int (nI LN), .int (nI PO), .int iw, .int ea, .int fa, .ref aCo, .int (nI CM)])), (aOu, .inl (cy 1, 20, .inl (wrS fO OM (dgs n))))] none := by
  by_cases h1 : n < 10
  · exact c_X8_saysNumber_1b l G cy am aS aBf aAs aSv aPa aOu aTx aCo K OM LN PO CM iS th iw ea fa n fO h1 (by omega)
  · by_cases h2 : n < 100
    · exact c_X8_saysNumber_2b l G cy am aS aBf aAs aSv aPa aOu aTx aCo K OM LN PO CM iS th iw ea fa n fO h2 (by omega) h1
    · exact c_X8_saysNumber_3 l G cy am aS aBf aAs aSv aPa aOu aTx aCo K OM LN PO CM iS th iw ea fa n fO hn ho9 h2

set_option maxRecDepth 100000 in
set_option maxHeartbeats 1000000 in
theorem c_X8_renderBath_ok (l : Launch) (G : va_G) (cy : Nat → ClassId) (am aS aBf aAs aSv aPa aOu aTx aCo K OM LN PO CM : Nat) (iS th iw ea fa : Int32) (σ : St) (j : Nat) (fO : Nat → Int32) (ho : Ok σ) (hj : j < nB σ) (hw : WtA (vB σ) (hB σ)) : WC l yX8_renderBath wsX8_renderBath { frames := 4, cells := 0, slots := 0, locals := 87 } G (PB G cy [(am, .inr (12, [.ref aS, .ref aBf, .ref aAs, .ref aSv, .int iS, .ref aPa, .int (nI K), .int th, .ref aOu, .int (nI OM), .ref aTx, .int (nI LN), .int (nI PO), .int iw, .int ea, .int fa, .ref aCo, .int (nI CM)])), (aS, .inl (cy 2, 89, .inl (encS σ))), (aOu, .inl (cy 1, 20, .inl fO))]) [.ref am, .int (nI j)] [(am, .inr (12, [.ref aS, .ref aBf, .ref aAs, .ref aSv, .int iS, .ref aPa, .int (nI K), .int th, .ref aOu, .int (nI OM), .ref aTx, .int (nI LN), .int (nI PO), .int iw, .int ea, .int fa, .ref aCo, .int (nI CM)])), (aS, .inl (cy 2, 89, .inl (encS σ))), (aOu, .inl (cy 1, 20, .inl fO))] [(am, .inr (12, [.ref aS, .ref aBf, .ref aAs, .ref aSv, .int iS, .ref aPa, .int (nI K), .int 0, .ref aOu, .int (nI ((rnd σ j).length)), .ref aTx, .int (nI LN), .int (nI PO), .int iw, .int ea, .int fa, .ref aCo, .int (nI CM)])), (aS, .inl (cy 2, 89, .inl (encS σ))), (aOu, .inl (cy 1, 20, .inl (wrS fO 0 (rnd σ j))))] (some (.int (nI ((rnd σ j).length)))) := by
  refine WC.ofW (cc := cX8_renderBath) (maxL := 2) (ret := (some .int)) (by decide) rfl (Nat.le_of_ble_eq_true rfl) ?_
  intro p e s m below meth c S9 hr hlocks hPB hD hS ls hl
  obtain ⟨hx, hb, hml, hown, hts⟩ := id S9
  obtain ⟨hP, hK⟩ := hPB
  have hl : lv_has ls 2 [(0, .ref am), (1, .int (nI j))] := hl
  have hP : va_P G vwCl [(am, .inr (12, [.ref aS, .ref aBf, .ref aAs, .ref aSv, .int iS, .ref aPa, .int (nI K), .int th, .ref aOu, .int (nI OM), .ref aTx, .int (nI LN), .int (nI PO), .int iw, .int ea, .int fa, .ref aCo, .int (nI CM)])), (aS, .inl (cy 2, 89, .inl (encT (nB σ) (vB σ) (hB σ) (pB σ) (mB σ) (nD σ) (bD σ) (lD σ) (uD σ) (qD σ) (wD σ) (nE σ) (kE σ) (bE σ) (lE σ) (tT σ) (dT σ) (aT σ) (rT σ) (hT σ) (xT σ)))), (aOu, .inl (cy 1, 20, .inl fO))] s.heap := hP
  have hD0 := hD
  have hD : va_D (wA [(am, .inr (12, [.ref aS, .ref aBf, .ref aAs, .ref aSv, .int iS, .ref aPa, .int (nI K), .int th, .ref aOu, .int (nI OM), .ref aTx, .int (nI LN), .int (nI PO), .int iw, .int ea, .int fa, .ref aCo, .int (nI CM)])), (aS, .inl (cy 2, 89, .inl (encS σ))), (aOu, .inl (cy 1, 20, .inl fO))]) [(am, .inr (12, [.ref aS, .ref aBf, .ref aAs, .ref aSv, .int iS, .ref aPa, .int (nI K), .int th, .ref aOu, .int (nI OM), .ref aTx, .int (nI LN), .int (nI PO), .int iw, .int ea, .int fa, .ref aCo, .int (nI CM)])), (aS, .inl (cy 2, 89, .inl (encT (nB σ) (vB σ) (hB σ) (pB σ) (mB σ) (nD σ) (bD σ) (lD σ) (uD σ) (qD σ) (wD σ) (nE σ) (kE σ) (bE σ) (lE σ) (tT σ) (dT σ) (aT σ) (rT σ) (hT σ) (xT σ)))), (aOu, .inl (cy 1, 20, .inl fO))] := hD
  have hi12 : ∀ w ∈ wsX80, w ∈ wsX8_renderBath := by decide +kernel
  have hf176 := hts (.fieldLink RX8 176 "BathLeagueModel" "outputMany" "I") (by decide +kernel)
  have hN0 := ho.1
  have hM0 := ho.2.1
  have hE0 := ho.2.2.1
  have hF := m_inI hj (by omega)
  have hvb := bx_v hw.bd (show j < 5 by omega)
  have hv9 : vB σ j = nI (bx (vB σ j)) := hvb.1
  have hv8 := hvb.2
  have hrb := bx_r hw (show j < 5 by omega)
  have hr9 : rdeg (hB σ j) (vB σ j) = nI (bx (rdeg (hB σ j) (vB σ j))) := hrb.1
  have hr8 := hrb.2
  have hl1 := dgs_le j
  have hl2 := dgs_le (bx (vB σ j))
  have hl3 := dgs_le (bx (rdeg (hB σ j) (vB σ j)))
  refine lv_aload_n hx hb dX8_renderBath_0 rfl (lv_at hl 0 rfl) ?_
  refine lv_aload_n hx hb dX8_renderBath_1 rfl (lv_at hl 0 rfl) ?_
  refine lv_iload_n hx hb dX8_renderBath_2 rfl (lv_at hl 1 rfl) ?_
  refine c_roVi S9 (c_X8_isBath l G cy am aS aBf aAs aSv aPa aOu aTx aCo K OM LN PO CM iS th iw ea fa (nB σ) (vB σ) (hB σ) (pB σ) (mB σ) (nD σ) (bD σ) (lD σ) (uD σ) (qD σ) (wD σ) (nE σ) (kE σ) (bE σ) (lE σ) (tT σ) (dT σ) (aT σ) (rT σ) (hT σ) (xT σ) (nI j) ho.1) (cwV 1 hts gX8_renderBath_X8_isBath rfl rfl rfl (by decide +kernel) ⟨Nat.le_of_ble_eq_true rfl, Nat.le_of_ble_eq_true rfl⟩) PB.blind (va_recv hK.1 hP (ci := 12) (q0 := 0) rfl rfl) (PB.at hK (m_Ppart hP [0, 1] rfl)) rfl hl.1 rfl (Nat.le_of_ble_eq_true rfl) ⟨Nat.zero_le _, Nat.zero_le _⟩ dX8_renderBath_3 ?_
  refine lv_t0 (if_pos hF) ?_
  refine c_wcVi (ws' := [(am, .inr (12, [.ref aS, .ref aBf, .ref aAs, .ref aSv, .int iS, .ref aPa, .int (nI K), .int 0, .ref aOu, .int (nI OM), .ref aTx, .int (nI LN), .int (nI PO), .int iw, .int ea, .int fa, .ref aCo, .int (nI CM)])), (aS, .inl (cy 2, 89, .inl (encT (nB σ) (vB σ) (hB σ) (pB σ) (mB σ) (nD σ) (bD σ) (lD σ) (uD σ) (qD σ) (wD σ) (nE σ) (kE σ) (bE σ) (lE σ) (tT σ) (dT σ) (aT σ) (rT σ) (hT σ) (xT σ)))), (aOu, .inl (cy 1, 20, .inl fO))]) S9 (c_X8_isThere_1 l G cy am aS aBf aAs aSv aPa aOu aTx aCo K OM LN PO CM iS th iw ea fa (nB σ) (vB σ) (hB σ) (pB σ) (mB σ) (nD σ) (bD σ) (lD σ) (uD σ) (qD σ) (wD σ) (nE σ) (kE σ) (bE σ) (lE σ) (tT σ) (dT σ) (aT σ) (rT σ) (hT σ) (xT σ)) (cwV 1 hts gX8_renderBath_X8_isThere rfl rfl rfl (by decide +kernel) ⟨Nat.le_of_ble_eq_true rfl, Nat.le_of_ble_eq_true rfl⟩) PB.blind (va_recv hK.1 hP (ci := 12) (q0 := 0) rfl rfl) (PB.at hK (m_Ppart hP [0, 1] rfl)) hP hD hS [0, 1] rfl rfl m_f2 rfl rfl hl.1 rfl (Nat.le_of_ble_eq_true rfl) ⟨Nat.zero_le _, Nat.zero_le _⟩ dX8_renderBath_6 (fun H locs hP hD hS => ?_)
  refine lv_if_ne (tgt := 14) hx hb dX8_renderBath_9 (by decide) (fun c_1 => ?_) (fun c_1 => ?_)
  · refine lv_aload_n hx hb dX8_renderBath_14 rfl (lv_at hl 0 rfl) ?_
    refine lv_iconst (v := 0) hx hb dX8_renderBath_15 (by decide) ?_
    refine va_put (D := G) (ci := 12) (v := .int 0) (ty := .int) (C := RX8) (T := TX8) (N := 18) hx hb hts hi12 tyX8 tyX8_ok nmX8 hown hK.1 hP hD hS 0 rfl rfl 9 (by decide) hf176 (fun _ h9 => h9) rfl (by decide +kernel) rfl rfl (Nat.le_of_ble_eq_true rfl) dX8_renderBath_16 (fun H locs hP hD hS => ?_)
    have hP : va_P G vwCl [(am, .inr (12, [.ref aS, .ref aBf, .ref aAs, .ref aSv, .int iS, .ref aPa, .int (nI K), .int 0, .ref aOu, .int 0, .ref aTx, .int (nI LN), .int (nI PO), .int iw, .int ea, .int fa, .ref aCo, .int (nI CM)])), (aS, .inl (cy 2, 89, .inl (encT (nB σ) (vB σ) (hB σ) (pB σ) (mB σ) (nD σ) (bD σ) (lD σ) (uD σ) (qD σ) (wD σ) (nE σ) (kE σ) (bE σ) (lE σ) (tT σ) (dT σ) (aT σ) (rT σ) (hT σ) (xT σ)))), (aOu, .inl (cy 1, 20, .inl fO))] H := hP
    have hD : va_D (wA [(am, .inr (12, [.ref aS, .ref aBf, .ref aAs, .ref aSv, .int iS, .ref aPa, .int (nI K), .int th, .ref aOu, .int (nI OM), .ref aTx, .int (nI LN), .int (nI PO), .int iw, .int ea, .int fa, .ref aCo, .int (nI CM)])), (aS, .inl (cy 2, 89, .inl (encS σ))), (aOu, .inl (cy 1, 20, .inl fO))]) [(am, .inr (12, [.ref aS, .ref aBf, .ref aAs, .ref aSv, .int iS, .ref aPa, .int (nI K), .int 0, .ref aOu, .int 0, .ref aTx, .int (nI LN), .int (nI PO), .int iw, .int ea, .int fa, .ref aCo, .int (nI CM)])), (aS, .inl (cy 2, 89, .inl (encT (nB σ) (vB σ) (hB σ) (pB σ) (mB σ) (nD σ) (bD σ) (lD σ) (uD σ) (qD σ) (wD σ) (nE σ) (kE σ) (bE σ) (lE σ) (tT σ) (dT σ) (aT σ) (rT σ) (hT σ) (xT σ)))), (aOu, .inl (cy 1, 20, .inl fO))] := hD
    refine lv_aload_n hx hb dX8_renderBath_19 rfl (lv_at hl 0 rfl) ?_
    refine lv_iload_n hx hb dX8_renderBath_20 rfl (lv_at hl 1 rfl) ?_
    refine c_wcVv (ws' := [(am, .inr (12, [.ref aS, .ref aBf, .ref aAs, .ref aSv, .int iS, .ref aPa, .int (nI K), .int 0, .ref aOu, .int (nI (0 + (dgs j).length)), .ref aTx, .int (nI LN), .int (nI PO), .int iw, .int ea, .int fa, .ref aCo, .int (nI CM)])), (aS, .inl (cy 2, 89, .inl (encT (nB σ) (vB σ) (hB σ) (pB σ) (mB σ) (nD σ) (bD σ) (lD σ) (uD σ) (qD σ) (wD σ) (nE σ) (kE σ) (bE σ) (lE σ) (tT σ) (dT σ) (aT σ) (rT σ) (hT σ) (xT σ)))), (aOu, .inl (cy 1, 20, .inl (wrS fO 0 (dgs j))))]) S9 (c_X8_saysNumber l G cy am aS aBf aAs aSv aPa aOu aTx aCo K 0 LN PO CM iS 0 iw ea fa j fO (by omega) (by omega)) (cwV 1 hts gX8_renderBath_X8_saysNumber rfl rfl rfl (by decide +kernel) ⟨Nat.le_of_ble_eq_true rfl, Nat.le_of_ble_eq_true rfl⟩) PB.blind (va_recv hK.1 hP (ci := 12) (q0 := 0) rfl rfl) (PB.at hK (m_Ppart hP [0, 2] rfl)) hP hD hS [0, 2] rfl rfl m_f2 rfl rfl hl.1 rfl (Nat.le_of_ble_eq_true rfl) ⟨Nat.zero_le _, Nat.zero_le _⟩ dX8_renderBath_21 (fun H locs hP hD hS => ?_)
    refine lv_aload_n hx hb dX8_renderBath_24 rfl (lv_at hl 0 rfl) ?_
    refine lv_bipush (v := 58) hx hb dX8_renderBath_25 (by decide) ?_
    refine c_wcVv (ws' := [(am, .inr (12, [.ref aS, .ref aBf, .ref aAs, .ref aSv, .int iS, .ref aPa, .int (nI K), .int 0, .ref aOu, .int (nI ((0 + (dgs j).length) + 1)), .ref aTx, .int (nI LN), .int (nI PO), .int iw, .int ea, .int fa, .ref aCo, .int (nI CM)])), (aS, .inl (cy 2, 89, .inl (encT (nB σ) (vB σ) (hB σ) (pB σ) (mB σ) (nD σ) (bD σ) (lD σ) (uD σ) (qD σ) (wD σ) (nE σ) (kE σ) (bE σ) (lE σ) (tT σ) (dT σ) (aT σ) (rT σ) (hT σ) (xT σ)))), (aOu, .inl (cy 1, 20, .inl (wrS (wrS fO 0 (dgs j)) (0 + (dgs j).length) [58])))]) S9 (c_X8_says l G cy am aS aBf aAs aSv aPa aOu aTx aCo K (0 + (dgs j).length) LN PO CM iS 0 iw ea fa 58 (wrS fO 0 (dgs j)) (by omega) rfl) (cwV 1 hts gX8_renderBath_X8_says rfl rfl rfl (by decide +kernel) ⟨Nat.le_of_ble_eq_true rfl, Nat.le_of_ble_eq_true rfl⟩) PB.blind (va_recv hK.1 hP (ci := 12) (q0 := 0) rfl rfl) (PB.at hK (m_Ppart hP [0, 2] rfl)) hP hD hS [0, 2] rfl rfl m_f2 rfl rfl hl.1 rfl (Nat.le_of_ble_eq_true rfl) ⟨Nat.zero_le _, Nat.zero_le _⟩ dX8_renderBath_27 (fun H locs hP hD hS => ?_)
    rw [wrS_app (ys := [58]) (xs := dgs j) (k := 0) (p := 0 + (dgs j).length) (by simp only [List.length_append, List.length_cons, List.length_nil] <;> omega)] at hP hD
    have hP : va_P G vwCl [(am, .inr (12, [.ref aS, .ref aBf, .ref aAs, .ref aSv, .int iS, .ref aPa, .int (nI K), .int 0, .ref aOu, .int (nI ((0 + (dgs j).length) + 1)), .ref aTx, .int (nI LN), .int (nI PO), .int iw, .int ea, .int fa, .ref aCo, .int (nI CM)])), (aS, .inl (cy 2, 89, .inl (encT (nB σ) (vB σ) (hB σ) (pB σ) (mB σ) (nD σ) (bD σ) (lD σ) (uD σ) (qD σ) (wD σ) (nE σ) (kE σ) (bE σ) (lE σ) (tT σ) (dT σ) (aT σ) (rT σ) (hT σ) (xT σ)))), (aOu, .inl (cy 1, 20, .inl (wrS fO 0 (dgs j ++ [58]))))] H := hP
    have hD : va_D (wA [(am, .inr (12, [.ref aS, .ref aBf, .ref aAs, .ref aSv, .int iS, .ref aPa, .int (nI K), .int th, .ref aOu, .int (nI OM), .ref aTx, .int (nI LN), .int (nI PO), .int iw, .int ea, .int fa, .ref aCo, .int (nI CM)])), (aS, .inl (cy 2, 89, .inl (encS σ))), (aOu, .inl (cy 1, 20, .inl fO))]) [(am, .inr (12, [.ref aS, .ref aBf, .ref aAs, .ref aSv, .int iS, .ref aPa, .int (nI K), .int 0, .ref aOu, .int (nI ((0 + (dgs j).length) + 1)), .ref aTx, .int (nI LN), .int (nI PO), .int iw, .int ea, .int fa, .ref aCo, .int (nI CM)])), (aS, .inl (cy 2, 89, .inl (encT (nB σ) (vB σ) (hB σ) (pB σ) (mB σ) (nD σ) (bD σ) (lD σ) (uD σ) (qD σ) (wD σ) (nE σ) (kE σ) (bE σ) (lE σ) (tT σ) (dT σ) (aT σ) (rT σ) (hT σ) (xT σ)))), (aOu, .inl (cy 1, 20, .inl (wrS fO 0 (dgs j ++ [58]))))] := hD
    refine lv_aload_n hx hb dX8_renderBath_30 rfl (lv_at hl 0 rfl) ?_
    refine lv_aload_n hx hb dX8_renderBath_31 rfl (lv_at hl 0 rfl) ?_
    refine lv_iload_n hx hb dX8_renderBath_32 rfl (lv_at hl 1 rfl) ?_
    refine lv_iconst (v := 0) hx hb dX8_renderBath_33 (by decide) ?_
    refine c_roVi S9 (c_X8_of_v l G cy am aS aBf aAs aSv aPa aOu aTx aCo K ((0 + (dgs j).length) + 1) LN PO CM iS 0 iw ea fa (nB σ) (vB σ) (hB σ) (pB σ) (mB σ) (nD σ) (bD σ) (lD σ) (uD σ) (qD σ) (wD σ) (nE σ) (kE σ) (bE σ) (lE σ) (tT σ) (dT σ) (aT σ) (rT σ) (hT σ) (xT σ) j (by omega)) (cwV 2 hts gX8_renderBath_X8_of rfl rfl rfl (by decide +kernel) ⟨Nat.le_of_ble_eq_true rfl, Nat.le_of_ble_eq_true rfl⟩) PB.blind (va_recv hK.1 hP (ci := 12) (q0 := 0) rfl rfl) (PB.at hK (m_Ppart hP [0, 1] rfl)) rfl hl.1 rfl (Nat.le_of_ble_eq_true rfl) ⟨Nat.zero_le _, Nat.zero_le _⟩ dX8_renderBath_34 ?_
    refine lv_t0 (show (vB σ) j = nI (bx (vB σ j)) from hv9) ?_
    refine c_wcVv (ws' := [(am, .inr (12, [.ref aS, .ref aBf, .ref aAs, .ref aSv, .int iS, .ref aPa, .int (nI K), .int 0, .ref aOu, .int (nI (((0 + (dgs j).length) + 1) + (dgs (bx (vB σ j))).length)), .ref aTx, .int (nI LN), .int (nI PO), .int iw, .int ea, .int fa, .ref aCo, .int (nI CM)])), (aS, .inl (cy 2, 89, .inl (encT (nB σ) (vB σ) (hB σ) (pB σ) (mB σ) (nD σ) (bD σ) (lD σ) (uD σ) (qD σ) (wD σ) (nE σ) (kE σ) (bE σ) (lE σ) (tT σ) (dT σ) (aT σ) (rT σ) (hT σ) (xT σ)))), (aOu, .inl (cy 1, 20, .inl (wrS (wrS fO 0 (dgs j ++ [58])) ((0 + (dgs j).length) + 1) (dgs (bx (vB σ j))))))]) S9 (c_X8_saysNumber l G cy am aS aBf aAs aSv aPa aOu aTx aCo K ((0 + (dgs j).length) + 1) LN PO CM iS 0 iw ea fa (bx (vB σ j)) (wrS fO 0 (dgs j ++ [58])) (by omega) (by omega)) (cwV 1 hts gX8_renderBath_X8_saysNumber rfl rfl rfl (by decide +kernel) ⟨Nat.le_of_ble_eq_true rfl, Nat.le_of_ble_eq_true rfl⟩) PB.blind (va_recv hK.1 hP (ci := 12) (q0 := 0) rfl rfl) (PB.at hK (m_Ppart hP [0, 2] rfl)) hP hD hS [0, 2] rfl rfl m_f2 rfl rfl hl.1 rfl (Nat.le_of_ble_eq_true rfl) ⟨Nat.zero_le _, Nat.zero_le _⟩ dX8_renderBath_37 (fun H locs hP hD hS => ?_)
    rw [wrS_app (ys := dgs (bx (vB σ j))) (xs := dgs j ++ [58]) (k := 0) (p := (0 + (dgs j).length) + 1) (by simp only [List.length_append, List.length_cons, List.length_nil] <;> omega)] at hP hD
    have hP : va_P G vwCl [(am, .inr (12, [.ref aS, .ref aBf, .ref aAs, .ref aSv, .int iS, .ref aPa, .int (nI K), .int 0, .ref aOu, .int (nI (((0 + (dgs j).length) + 1) + (dgs (bx (vB σ j))).length)), .ref aTx, .int (nI LN), .int (nI PO), .int iw, .int ea, .int fa, .ref aCo, .int (nI CM)])), (aS, .inl (cy 2, 89, .inl (encT (nB σ) (vB σ) (hB σ) (pB σ) (mB σ) (nD σ) (bD σ) (lD σ) (uD σ) (qD σ) (wD σ) (nE σ) (kE σ) (bE σ) (lE σ) (tT σ) (dT σ) (aT σ) (rT σ) (hT σ) (xT σ)))), (aOu, .inl (cy 1, 20, .inl (wrS fO 0 (dgs j ++ [58] ++ dgs (bx (vB σ j))))))] H := hP
    have hD : va_D (wA [(am, .inr (12, [.ref aS, .ref aBf, .ref aAs, .ref aSv, .int iS, .ref aPa, .int (nI K), .int th, .ref aOu, .int (nI OM), .ref aTx, .int (nI LN), .int (nI PO), .int iw, .int ea, .int fa, .ref aCo, .int (nI CM)])), (aS, .inl (cy 2, 89, .inl (encS σ))), (aOu, .inl (cy 1, 20, .inl fO))]) [(am, .inr (12, [.ref aS, .ref aBf, .ref aAs, .ref aSv, .int iS, .ref aPa, .int (nI K), .int 0, .ref aOu, .int (nI (((0 + (dgs j).length) + 1) + (dgs (bx (vB σ j))).length)), .ref aTx, .int (nI LN), .int (nI PO), .int iw, .int ea, .int fa, .ref aCo, .int (nI CM)])), (aS, .inl (cy 2, 89, .inl (encT (nB σ) (vB σ) (hB σ) (pB σ) (mB σ) (nD σ) (bD σ) (lD σ) (uD σ) (qD σ) (wD σ) (nE σ) (kE σ) (bE σ) (lE σ) (tT σ) (dT σ) (aT σ) (rT σ) (hT σ) (xT σ)))), (aOu, .inl (cy 1, 20, .inl (wrS fO 0 (dgs j ++ [58] ++ dgs (bx (vB σ j))))))] := hD
    refine lv_aload_n hx hb dX8_renderBath_40 rfl (lv_at hl 0 rfl) ?_
    refine lv_bipush (v := 108) hx hb dX8_renderBath_41 (by decide) ?_
    refine c_wcVv (ws' := [(am, .inr (12, [.ref aS, .ref aBf, .ref aAs, .ref aSv, .int iS, .ref aPa, .int (nI K), .int 0, .ref aOu, .int (nI ((((0 + (dgs j).length) + 1) + (dgs (bx (vB σ j))).length) + 1)), .ref aTx, .int (nI LN), .int (nI PO), .int iw, .int ea, .int fa, .ref aCo, .int (nI CM)])), (aS, .inl (cy 2, 89, .inl (encT (nB σ) (vB σ) (hB σ) (pB σ) (mB σ) (nD σ) (bD σ) (lD σ) (uD σ) (qD σ) (wD σ) (nE σ) (kE σ) (bE σ) (lE σ) (tT σ) (dT σ) (aT σ) (rT σ) (hT σ) (xT σ)))), (aOu, .inl (cy 1, 20, .inl (wrS (wrS fO 0 (dgs j ++ [58] ++ dgs (bx (vB σ j)))) (((0 + (dgs j).length) + 1) + (dgs (bx (vB σ j))).length) [108])))]) S9 (c_X8_says l G cy am aS aBf aAs aSv aPa aOu aTx aCo K (((0 + (dgs j).length) + 1) + (dgs (bx (vB σ j))).length) LN PO CM iS 0 iw ea fa 108 (wrS fO 0 (dgs j ++ [58] ++ dgs (bx (vB σ j)))) (by omega) rfl) (cwV 1 hts gX8_renderBath_X8_says rfl rfl rfl (by decide +kernel) ⟨Nat.le_of_ble_eq_true rfl, Nat.le_of_ble_eq_true rfl⟩) PB.blind (va_recv hK.1 hP (ci := 12) (q0 := 0) rfl rfl) (PB.at hK (m_Ppart hP [0, 2] rfl)) hP hD hS [0, 2] rfl rfl m_f2 rfl rfl hl.1 rfl (Nat.le_of_ble_eq_true rfl) ⟨Nat.zero_le _, Nat.zero_le _⟩ dX8_renderBath_43 (fun H locs hP hD hS => ?_)
    rw [wrS_app (ys := [108]) (xs := dgs j ++ [58] ++ dgs (bx (vB σ j))) (k := 0) (p := ((0 + (dgs j).length) + 1) + (dgs (bx (vB σ j))).length) (by simp only [List.length_append, List.length_cons, List.length_nil] <;> omega)] at hP hD
    have hP : va_P G vwCl [(am, .inr (12, [.ref aS, .ref aBf, .ref aAs, .ref aSv, .int iS, .ref aPa, .int (nI K), .int 0, .ref aOu, .int (nI ((((0 + (dgs j).length) + 1) + (dgs (bx (vB σ j))).length) + 1)), .ref aTx, .int (nI LN), .int (nI PO), .int iw, .int ea, .int fa, .ref aCo, .int (nI CM)])), (aS, .inl (cy 2, 89, .inl (encT (nB σ) (vB σ) (hB σ) (pB σ) (mB σ) (nD σ) (bD σ) (lD σ) (uD σ) (qD σ) (wD σ) (nE σ) (kE σ) (bE σ) (lE σ) (tT σ) (dT σ) (aT σ) (rT σ) (hT σ) (xT σ)))), (aOu, .inl (cy 1, 20, .inl (wrS fO 0 (dgs j ++ [58] ++ dgs (bx (vB σ j)) ++ [108]))))] H := hP
    have hD : va_D (wA [(am, .inr (12, [.ref aS, .ref aBf, .ref aAs, .ref aSv, .int iS, .ref aPa, .int (nI K), .int th, .ref aOu, .int (nI OM), .ref aTx, .int (nI LN), .int (nI PO), .int iw, .int ea, .int fa, .ref aCo, .int (nI CM)])), (aS, .inl (cy 2, 89, .inl (encS σ))), (aOu, .inl (cy 1, 20, .inl fO))]) [(am, .inr (12, [.ref aS, .ref aBf, .ref aAs, .ref aSv, .int iS, .ref aPa, .int (nI K), .int 0, .ref aOu, .int (nI ((((0 + (dgs j).length) + 1) + (dgs (bx (vB σ j))).length) + 1)), .ref aTx, .int (nI LN), .int (nI PO), .int iw, .int ea, .int fa, .ref aCo, .int (nI CM)])), (aS, .inl (cy 2, 89, .inl (encT (nB σ) (vB σ) (hB σ) (pB σ) (mB σ) (nD σ) (bD σ) (lD σ) (uD σ) (qD σ) (wD σ) (nE σ) (kE σ) (bE σ) (lE σ) (tT σ) (dT σ) (aT σ) (rT σ) (hT σ) (xT σ)))), (aOu, .inl (cy 1, 20, .inl (wrS fO 0 (dgs j ++ [58] ++ dgs (bx (vB σ j)) ++ [108]))))] := hD
    refine lv_aload_n hx hb dX8_renderBath_46 rfl (lv_at hl 0 rfl) ?_
    refine lv_iload_n hx hb dX8_renderBath_47 rfl (lv_at hl 1 rfl) ?_
    refine c_roVi S9 (c_X8_isWet l G cy am aS aBf aAs aSv aPa aOu aTx aCo K ((((0 + (dgs j).length) + 1) + (dgs (bx (vB σ j))).length) + 1) LN PO CM iS 0 iw ea fa (nB σ) (vB σ) (hB σ) (pB σ) (mB σ) (nD σ) (bD σ) (lD σ) (uD σ) (qD σ) (wD σ) (nE σ) (kE σ) (bE σ) (lE σ) (tT σ) (dT σ) (aT σ) (rT σ) (hT σ) (xT σ) j (by omega)) (cwV 1 hts gX8_renderBath_X8_isWet rfl rfl rfl (by decide +kernel) ⟨Nat.le_of_ble_eq_true rfl, Nat.le_of_ble_eq_true rfl⟩) PB.blind (va_recv hK.1 hP (ci := 12) (q0 := 0) rfl rfl) (PB.at hK (m_Ppart hP [0, 1] rfl)) rfl hl.1 rfl (Nat.le_of_ble_eq_true rfl) ⟨Nat.zero_le _, Nat.zero_le _⟩ dX8_renderBath_48 ?_
    refine lv_if_eq (tgt := 69) hx hb dX8_renderBath_51 (by decide) (fun c_2 => ?_) (fun c_2 => ?_)
    · have b_3 : ¬ (wet (vB σ) j = true) := m_ite0.mp c_2
      refine lv_aload_n hx hb dX8_renderBath_69 rfl (lv_at hl 0 rfl) ?_
      refine lv_aload_n hx hb dX8_renderBath_70 rfl (lv_at hl 0 rfl) ?_
      refine lv_iload_n hx hb dX8_renderBath_71 rfl (lv_at hl 1 rfl) ?_
      refine lv_iconst (v := 2) hx hb dX8_renderBath_72 (by decide) ?_
      refine c_roVi S9 (c_X8_of_o l G cy am aS aBf aAs aSv aPa aOu aTx aCo K ((((0 + (dgs j).length) + 1) + (dgs (bx (vB σ j))).length) + 1) LN PO CM iS 0 iw ea fa (nB σ) (vB σ) (hB σ) (pB σ) (mB σ) (nD σ) (bD σ) (lD σ) (uD σ) (qD σ) (wD σ) (nE σ) (kE σ) (bE σ) (lE σ) (tT σ) (dT σ) (aT σ) (rT σ) (hT σ) (xT σ) j (by omega)) (cwV 2 hts gX8_renderBath_X8_of rfl rfl rfl (by decide +kernel) ⟨Nat.le_of_ble_eq_true rfl, Nat.le_of_ble_eq_true rfl⟩) PB.blind (va_recv hK.1 hP (ci := 12) (q0 := 0) rfl rfl) (PB.at hK (m_Ppart hP [0, 1] rfl)) rfl hl.1 rfl (Nat.le_of_ble_eq_true rfl) ⟨Nat.zero_le _, Nat.zero_le _⟩ dX8_renderBath_73 ?_
      refine lv_iconst (v := 1) hx hb dX8_renderBath_76 (by decide) ?_
      refine lv_icmp_ne (tgt := 85) hx hb dX8_renderBath_77 (by decide) (fun c_4 => ?_) (fun c_4 => ?_)
      · have z_5 : ¬ pB σ j = 0 := fun q => c_4 (m_iteP.mpr ⟨q, by omega⟩)
        refine lv_bipush (v := 43) hx hb dX8_renderBath_85 (by decide) ?_
        refine c_wcVv (ws' := [(am, .inr (12, [.ref aS, .ref aBf, .ref aAs, .ref aSv, .int iS, .ref aPa, .int (nI K), .int 0, .ref aOu, .int (nI (((((0 + (dgs j).length) + 1) + (dgs (bx (vB σ j))).length) + 1) + 1)), .ref aTx, .int (nI LN), .int (nI PO), .int iw, .int ea, .int fa, .ref aCo, .int (nI CM)])), (aS, .inl (cy 2, 89, .inl (encT (nB σ) (vB σ) (hB σ) (pB σ) (mB σ) (nD σ) (bD σ) (lD σ) (uD σ) (qD σ) (wD σ) (nE σ) (kE σ) (bE σ) (lE σ) (tT σ) (dT σ) (aT σ) (rT σ) (hT σ) (xT σ)))), (aOu, .inl (cy 1, 20, .inl (wrS (wrS fO 0 (dgs j ++ [58] ++ dgs (bx (vB σ j)) ++ [108])) ((((0 + (dgs j).length) + 1) + (dgs (bx (vB σ j))).length) + 1) [43])))]) S9 (c_X8_says l G cy am aS aBf aAs aSv aPa aOu aTx aCo K ((((0 + (dgs j).length) + 1) + (dgs (bx (vB σ j))).length) + 1) LN PO CM iS 0 iw ea fa 43 (wrS fO 0 (dgs j ++ [58] ++ dgs (bx (vB σ j)) ++ [108])) (by omega) rfl) (cwV 1 hts gX8_renderBath_X8_says rfl rfl rfl (by decide +kernel) ⟨Nat.le_of_ble_eq_true rfl, Nat.le_of_ble_eq_true rfl⟩) PB.blind (va_recv hK.1 hP (ci := 12) (q0 := 0) rfl rfl) (PB.at hK (m_Ppart hP [0, 2] rfl)) hP hD hS [0, 2] rfl rfl m_f2 rfl rfl hl.1 rfl (Nat.le_of_ble_eq_true rfl) ⟨Nat.zero_le _, Nat.zero_le _⟩ dX8_renderBath_87 (fun H locs hP hD hS => ?_)
        rw [wrS_app (ys := [43]) (xs := dgs j ++ [58] ++ dgs (bx (vB σ j)) ++ [108]) (k := 0) (p := (((0 + (dgs j).length) + 1) + (dgs (bx (vB σ j))).length) + 1) (by simp only [List.length_append, List.length_cons, List.length_nil] <;> omega)] at hP hD
        have hP : va_P G vwCl [(am, .inr (12, [.ref aS, .ref aBf, .ref aAs, .ref aSv, .int iS, .ref aPa, .int (nI K), .int 0, .ref aOu, .int (nI (((((0 + (dgs j).length) + 1) + (dgs (bx (vB σ j))).length) + 1) + 1)), .ref aTx, .int (nI LN), .int (nI PO), .int iw, .int ea, .int fa, .ref aCo, .int (nI CM)])), (aS, .inl (cy 2, 89, .inl (encT (nB σ) (vB σ) (hB σ) (pB σ) (mB σ) (nD σ) (bD σ) (lD σ) (uD σ) (qD σ) (wD σ) (nE σ) (kE σ) (bE σ) (lE σ) (tT σ) (dT σ) (aT σ) (rT σ) (hT σ) (xT σ)))), (aOu, .inl (cy 1, 20, .inl (wrS fO 0 (dgs j ++ [58] ++ dgs (bx (vB σ j)) ++ [108] ++ [43]))))] H := hP
        have hD : va_D (wA [(am, .inr (12, [.ref aS, .ref aBf, .ref aAs, .ref aSv, .int iS, .ref aPa, .int (nI K), .int th, .ref aOu, .int (nI OM), .ref aTx, .int (nI LN), .int (nI PO), .int iw, .int ea, .int fa, .ref aCo, .int (nI CM)])), (aS, .inl (cy 2, 89, .inl (encS σ))), (aOu, .inl (cy 1, 20, .inl fO))]) [(am, .inr (12, [.ref aS, .ref aBf, .ref aAs, .ref aSv, .int iS, .ref aPa, .int (nI K), .int 0, .ref aOu, .int (nI (((((0 + (dgs j).length) + 1) + (dgs (bx (vB σ j))).length) + 1) + 1)), .ref aTx, .int (nI LN), .int (nI PO), .int iw, .int ea, .int fa, .ref aCo, .int (nI CM)])), (aS, .inl (cy 2, 89, .inl (encT (nB σ) (vB σ) (hB σ) (pB σ) (mB σ) (nD σ) (bD σ) (lD σ) (uD σ) (qD σ) (wD σ) (nE σ) (kE σ) (bE σ) (lE σ) (tT σ) (dT σ) (aT σ) (rT σ) (hT σ) (xT σ)))), (aOu, .inl (cy 1, 20, .inl (wrS fO 0 (dgs j ++ [58] ++ dgs (bx (vB σ j)) ++ [108] ++ [43]))))] := hD
        refine lv_aload_n hx hb dX8_renderBath_90 rfl (lv_at hl 0 rfl) ?_
        refine lv_iload_n hx hb dX8_renderBath_91 rfl (lv_at hl 1 rfl) ?_
        refine lv_iconst (v := 3) hx hb dX8_renderBath_92 (by decide) ?_
        refine c_roVi S9 (c_X8_of_m l G cy am aS aBf aAs aSv aPa aOu aTx aCo K (((((0 + (dgs j).length) + 1) + (dgs (bx (vB σ j))).length) + 1) + 1) LN PO CM iS 0 iw ea fa (nB σ) (vB σ) (hB σ) (pB σ) (mB σ) (nD σ) (bD σ) (lD σ) (uD σ) (qD σ) (wD σ) (nE σ) (kE σ) (bE σ) (lE σ) (tT σ) (dT σ) (aT σ) (rT σ) (hT σ) (xT σ) j (by omega)) (cwV 2 hts gX8_renderBath_X8_of rfl rfl rfl (by decide +kernel) ⟨Nat.le_of_ble_eq_true rfl, Nat.le_of_ble_eq_true rfl⟩) PB.blind (va_recv hK.1 hP (ci := 12) (q0 := 0) rfl rfl) (PB.at hK (m_Ppart hP [0, 1] rfl)) rfl hl.1 rfl (Nat.le_of_ble_eq_true rfl) ⟨Nat.zero_le _, Nat.zero_le _⟩ dX8_renderBath_93 ?_
        refine lv_iconst (v := 1) hx hb dX8_renderBath_96 (by decide) ?_
        refine lv_icmp_ne (tgt := 106) hx hb dX8_renderBath_97 (by decide) (fun c_6 => ?_) (fun c_6 => ?_)
        · have z_7 : ((mB σ) j) = 0 := (ho.m01 j (by omega)).resolve_right c_6
          refine lv_aload_n hx hb dX8_renderBath_106 rfl (lv_at hl 0 rfl) ?_
          refine va_get (D := G) (ci := 12) (v := .int (nI (((((0 + (dgs j).length) + 1) + (dgs (bx (vB σ j))).length) + 1) + 1))) (C := RX8) (T := TX8) (N := 18) hx hb hts hi12 hown hK.1 hP 0 rfl rfl 9 (by decide) hf176 (fun _ h9 => h9) rfl dX8_renderBath_107 ?_
          have e9 : rnd σ j = dgs j ++ [58] ++ dgs (bx (vB σ j)) ++ [108] ++ [43] := by simp [rnd, b_3, z_5, z_7]
          have e8 : (((((0 + (dgs j).length) + 1) + (dgs (bx (vB σ j))).length) + 1) + 1) = (rnd σ j).length := by rw [e9]; simp only [List.length_append, List.length_cons, List.length_nil]; omega
          exact wc_iret hx hb hr hlocks (by rw [e8, ← e9] at hP; exact hP) hS (by rw [e8]) dX8_renderBath_110
        · have z_8 : ¬ ((mB σ) j) = 0 := m_fl1 c_6
          refine lv_aload_n hx hb dX8_renderBath_100 rfl (lv_at hl 0 rfl) ?_
          refine lv_bipush (v := 42) hx hb dX8_renderBath_101 (by decide) ?_
          refine c_wcVv (ws' := [(am, .inr (12, [.ref aS, .ref aBf, .ref aAs, .ref aSv, .int iS, .ref aPa, .int (nI K), .int 0, .ref aOu, .int (nI ((((((0 + (dgs j).length) + 1) + (dgs (bx (vB σ j))).length) + 1) + 1) + 1)), .ref aTx, .int (nI LN), .int (nI PO), .int iw, .int ea, .int fa, .ref aCo, .int (nI CM)])), (aS, .inl (cy 2, 89, .inl (encT (nB σ) (vB σ) (hB σ) (pB σ) (mB σ) (nD σ) (bD σ) (lD σ) (uD σ) (qD σ) (wD σ) (nE σ) (kE σ) (bE σ) (lE σ) (tT σ) (dT σ) (aT σ) (rT σ) (hT σ) (xT σ)))), (aOu, .inl (cy 1, 20, .inl (wrS (wrS fO 0 (dgs j ++ [58] ++ dgs (bx (vB σ j)) ++ [108] ++ [43])) (((((0 + (dgs j).length) + 1) + (dgs (bx (vB σ j))).length) + 1) + 1) [42])))]) S9 (c_X8_says l G cy am aS aBf aAs aSv aPa aOu aTx aCo K (((((0 + (dgs j).length) + 1) + (dgs (bx (vB σ j))).length) + 1) + 1) LN PO CM iS 0 iw ea fa 42 (wrS fO 0 (dgs j ++ [58] ++ dgs (bx (vB σ j)) ++ [108] ++ [43])) (by omega) rfl) (cwV 1 hts gX8_renderBath_X8_says rfl rfl rfl (by decide +kernel) ⟨Nat.le_of_ble_eq_true rfl, Nat.le_of_ble_eq_true rfl⟩) PB.blind (va_recv hK.1 hP (ci := 12) (q0 := 0) rfl rfl) (PB.at hK (m_Ppart hP [0, 2] rfl)) hP hD hS [0, 2] rfl rfl m_f2 rfl rfl hl.1 rfl (Nat.le_of_ble_eq_true rfl) ⟨Nat.zero_le _, Nat.zero_le _⟩ dX8_renderBath_103 (fun H locs hP hD hS => ?_)
          rw [wrS_app (ys := [42]) (xs := dgs j ++ [58] ++ dgs (bx (vB σ j)) ++ [108] ++ [43]) (k := 0) (p := ((((0 + (dgs j).length) + 1) + (dgs (bx (vB σ j))).length) + 1) + 1) (by simp only [List.length_append, List.length_cons, List.length_nil] <;> omega)] at hP hD
          have hP : va_P G vwCl [(am, .inr (12, [.ref aS, .ref aBf, .ref aAs, .ref aSv, .int iS, .ref aPa, .int (nI K), .int 0, .ref aOu, .int (nI ((((((0 + (dgs j).length) + 1) + (dgs (bx (vB σ j))).length) + 1) + 1) + 1)), .ref aTx, .int (nI LN), .int (nI PO), .int iw, .int ea, .int fa, .ref aCo, .int (nI CM)])), (aS, .inl (cy 2, 89, .inl (encT (nB σ) (vB σ) (hB σ) (pB σ) (mB σ) (nD σ) (bD σ) (lD σ) (uD σ) (qD σ) (wD σ) (nE σ) (kE σ) (bE σ) (lE σ) (tT σ) (dT σ) (aT σ) (rT σ) (hT σ) (xT σ)))), (aOu, .inl (cy 1, 20, .inl (wrS fO 0 (dgs j ++ [58] ++ dgs (bx (vB σ j)) ++ [108] ++ [43] ++ [42]))))] H := hP
          have hD : va_D (wA [(am, .inr (12, [.ref aS, .ref aBf, .ref aAs, .ref aSv, .int iS, .ref aPa, .int (nI K), .int th, .ref aOu, .int (nI OM), .ref aTx, .int (nI LN), .int (nI PO), .int iw, .int ea, .int fa, .ref aCo, .int (nI CM)])), (aS, .inl (cy 2, 89, .inl (encS σ))), (aOu, .inl (cy 1, 20, .inl fO))]) [(am, .inr (12, [.ref aS, .ref aBf, .ref aAs, .ref aSv, .int iS, .ref aPa, .int (nI K), .int 0, .ref aOu, .int (nI ((((((0 + (dgs j).length) + 1) + (dgs (bx (vB σ j))).length) + 1) + 1) + 1)), .ref aTx, .int (nI LN), .int (nI PO), .int iw, .int ea, .int fa, .ref aCo, .int (nI CM)])), (aS, .inl (cy 2, 89, .inl (encT (nB σ) (vB σ) (hB σ) (pB σ) (mB σ) (nD σ) (bD σ) (lD σ) (uD σ) (qD σ) (wD σ) (nE σ) (kE σ) (bE σ) (lE σ) (tT σ) (dT σ) (aT σ) (rT σ) (hT σ) (xT σ)))), (aOu, .inl (cy 1, 20, .inl (wrS fO 0 (dgs j ++ [58] ++ dgs (bx (vB σ j)) ++ [108] ++ [43] ++ [42]))))] := hD
          refine lv_aload_n hx hb dX8_renderBath_106 rfl (lv_at hl 0 rfl) ?_
          refine va_get (D := G) (ci := 12) (v := .int (nI ((((((0 + (dgs j).length) + 1) + (dgs (bx (vB σ j))).length) + 1) + 1) + 1))) (C := RX8) (T := TX8) (N := 18) hx hb hts hi12 hown hK.1 hP 0 rfl rfl 9 (by decide) hf176 (fun _ h9 => h9) rfl dX8_renderBath_107 ?_
          have e9 : rnd σ j = dgs j ++ [58] ++ dgs (bx (vB σ j)) ++ [108] ++ [43] ++ [42] := by simp [rnd, b_3, z_5, z_8]
          have e8 : ((((((0 + (dgs j).length) + 1) + (dgs (bx (vB σ j))).length) + 1) + 1) + 1) = (rnd σ j).length := by rw [e9]; simp only [List.length_append, List.length_cons, List.length_nil]; omega
          exact wc_iret hx hb hr hlocks (by rw [e8, ← e9] at hP; exact hP) hS (by rw [e8]) dX8_renderBath_110
      · have z_9 : pB σ j = 0 := (m_iteP.mp c_4).1
        refine lv_bipush (v := 45) hx hb dX8_renderBath_80 (by decide) ?_
        refine lv_goto (tgt := 87) hx hb dX8_renderBath_82 (by decide) ?_
        refine c_wcVv (ws' := [(am, .inr (12, [.ref aS, .ref aBf, .ref aAs, .ref aSv, .int iS, .ref aPa, .int (nI K), .int 0, .ref aOu, .int (nI (((((0 + (dgs j).length) + 1) + (dgs (bx (vB σ j))).length) + 1) + 1)), .ref aTx, .int (nI LN), .int (nI PO), .int iw, .int ea, .int fa, .ref aCo, .int (nI CM)])), (aS, .inl (cy 2, 89, .inl (encT (nB σ) (vB σ) (hB σ) (pB σ) (mB σ) (nD σ) (bD σ) (lD σ) (uD σ) (qD σ) (wD σ) (nE σ) (kE σ) (bE σ) (lE σ) (tT σ) (dT σ) (aT σ) (rT σ) (hT σ) (xT σ)))), (aOu, .inl (cy 1, 20, .inl (wrS (wrS fO 0 (dgs j ++ [58] ++ dgs (bx (vB σ j)) ++ [108])) ((((0 + (dgs j).length) + 1) + (dgs (bx (vB σ j))).length) + 1) [45])))]) S9 (c_X8_says l G cy am aS aBf aAs aSv aPa aOu aTx aCo K ((((0 + (dgs j).length) + 1) + (dgs (bx (vB σ j))).length) + 1) LN PO CM iS 0 iw ea fa 45 (wrS fO 0 (dgs j ++ [58] ++ dgs (bx (vB σ j)) ++ [108])) (by omega) rfl) (cwV 1 hts gX8_renderBath_X8_says rfl rfl rfl (by decide +kernel) ⟨Nat.le_of_ble_eq_true rfl, Nat.le_of_ble_eq_true rfl⟩) PB.blind (va_recv hK.1 hP (ci := 12) (q0 := 0) rfl rfl) (PB.at hK (m_Ppart hP [0, 2] rfl)) hP hD hS [0, 2] rfl rfl m_f2 rfl rfl hl.1 rfl (Nat.le_of_ble_eq_true rfl) ⟨Nat.zero_le _, Nat.zero_le _⟩ dX8_renderBath_87 (fun H locs hP hD hS => ?_)
        rw [wrS_app (ys := [45]) (xs := dgs j ++ [58] ++ dgs (bx (vB σ j)) ++ [108]) (k := 0) (p := (((0 + (dgs j).length) + 1) + (dgs (bx (vB σ j))).length) + 1) (by simp only [List.length_append, List.length_cons, List.length_nil] <;> omega)] at hP hD
        have hP : va_P G vwCl [(am, .inr (12, [.ref aS, .ref aBf, .ref aAs, .ref aSv, .int iS, .ref aPa, .int (nI K), .int 0, .ref aOu, .int (nI (((((0 + (dgs j).length) + 1) + (dgs (bx (vB σ j))).length) + 1) + 1)), .ref aTx, .int (nI LN), .int (nI PO), .int iw, .int ea, .int fa, .ref aCo, .int (nI CM)])), (aS, .inl (cy 2, 89, .inl (encT (nB σ) (vB σ) (hB σ) (pB σ) (mB σ) (nD σ) (bD σ) (lD σ) (uD σ) (qD σ) (wD σ) (nE σ) (kE σ) (bE σ) (lE σ) (tT σ) (dT σ) (aT σ) (rT σ) (hT σ) (xT σ)))), (aOu, .inl (cy 1, 20, .inl (wrS fO 0 (dgs j ++ [58] ++ dgs (bx (vB σ j)) ++ [108] ++ [45]))))] H := hP
        have hD : va_D (wA [(am, .inr (12, [.ref aS, .ref aBf, .ref aAs, .ref aSv, .int iS, .ref aPa, .int (nI K), .int th, .ref aOu, .int (nI OM), .ref aTx, .int (nI LN), .int (nI PO), .int iw, .int ea, .int fa, .ref aCo, .int (nI CM)])), (aS, .inl (cy 2, 89, .inl (encS σ))), (aOu, .inl (cy 1, 20, .inl fO))]) [(am, .inr (12, [.ref aS, .ref aBf, .ref aAs, .ref aSv, .int iS, .ref aPa, .int (nI K), .int 0, .ref aOu, .int (nI (((((0 + (dgs j).length) + 1) + (dgs (bx (vB σ j))).length) + 1) + 1)), .ref aTx, .int (nI LN), .int (nI PO), .int iw, .int ea, .int fa, .ref aCo, .int (nI CM)])), (aS, .inl (cy 2, 89, .inl (encT (nB σ) (vB σ) (hB σ) (pB σ) (mB σ) (nD σ) (bD σ) (lD σ) (uD σ) (qD σ) (wD σ) (nE σ) (kE σ) (bE σ) (lE σ) (tT σ) (dT σ) (aT σ) (rT σ) (hT σ) (xT σ)))), (aOu, .inl (cy 1, 20, .inl (wrS fO 0 (dgs j ++ [58] ++ dgs (bx (vB σ j)) ++ [108] ++ [45]))))] := hD
        refine lv_aload_n hx hb dX8_renderBath_90 rfl (lv_at hl 0 rfl) ?_
        refine lv_iload_n hx hb dX8_renderBath_91 rfl (lv_at hl 1 rfl) ?_
        refine lv_iconst (v := 3) hx hb dX8_renderBath_92 (by decide) ?_
        refine c_roVi S9 (c_X8_of_m l G cy am aS aBf aAs aSv aPa aOu aTx aCo K (((((0 + (dgs j).length) + 1) + (dgs (bx (vB σ j))).length) + 1) + 1) LN PO CM iS 0 iw ea fa (nB σ) (vB σ) (hB σ) (pB σ) (mB σ) (nD σ) (bD σ) (lD σ) (uD σ) (qD σ) (wD σ) (nE σ) (kE σ) (bE σ) (lE σ) (tT σ) (dT σ) (aT σ) (rT σ) (hT σ) (xT σ) j (by omega)) (cwV 2 hts gX8_renderBath_X8_of rfl rfl rfl (by decide +kernel) ⟨Nat.le_of_ble_eq_true rfl, Nat.le_of_ble_eq_true rfl⟩) PB.blind (va_recv hK.1 hP (ci := 12) (q0 := 0) rfl rfl) (PB.at hK (m_Ppart hP [0, 1] rfl)) rfl hl.1 rfl (Nat.le_of_ble_eq_true rfl) ⟨Nat.zero_le _, Nat.zero_le _⟩ dX8_renderBath_93 ?_
        refine lv_iconst (v := 1) hx hb dX8_renderBath_96 (by decide) ?_
        refine lv_icmp_ne (tgt := 106) hx hb dX8_renderBath_97 (by decide) (fun c_10 => ?_) (fun c_10 => ?_)
        · have z_11 : ((mB σ) j) = 0 := (ho.m01 j (by omega)).resolve_right c_10
          refine lv_aload_n hx hb dX8_renderBath_106 rfl (lv_at hl 0 rfl) ?_
          refine va_get (D := G) (ci := 12) (v := .int (nI (((((0 + (dgs j).length) + 1) + (dgs (bx (vB σ j))).length) + 1) + 1))) (C := RX8) (T := TX8) (N := 18) hx hb hts hi12 hown hK.1 hP 0 rfl rfl 9 (by decide) hf176 (fun _ h9 => h9) rfl dX8_renderBath_107 ?_
          have e9 : rnd σ j = dgs j ++ [58] ++ dgs (bx (vB σ j)) ++ [108] ++ [45] := by simp [rnd, b_3, z_9, z_11]
          have e8 : (((((0 + (dgs j).length) + 1) + (dgs (bx (vB σ j))).length) + 1) + 1) = (rnd σ j).length := by rw [e9]; simp only [List.length_append, List.length_cons, List.length_nil]; omega
          exact wc_iret hx hb hr hlocks (by rw [e8, ← e9] at hP; exact hP) hS (by rw [e8]) dX8_renderBath_110
        · have z_12 : ¬ ((mB σ) j) = 0 := m_fl1 c_10
          refine lv_aload_n hx hb dX8_renderBath_100 rfl (lv_at hl 0 rfl) ?_
          refine lv_bipush (v := 42) hx hb dX8_renderBath_101 (by decide) ?_
          refine c_wcVv (ws' := [(am, .inr (12, [.ref aS, .ref aBf, .ref aAs, .ref aSv, .int iS, .ref aPa, .int (nI K), .int 0, .ref aOu, .int (nI ((((((0 + (dgs j).length) + 1) + (dgs (bx (vB σ j))).length) + 1) + 1) + 1)), .ref aTx, .int (nI LN), .int (nI PO), .int iw, .int ea, .int fa, .ref aCo, .int (nI CM)])), (aS, .inl (cy 2, 89, .inl (encT (nB σ) (vB σ) (hB σ) (pB σ) (mB σ) (nD σ) (bD σ) (lD σ) (uD σ) (qD σ) (wD σ) (nE σ) (kE σ) (bE σ) (lE σ) (tT σ) (dT σ) (aT σ) (rT σ) (hT σ) (xT σ)))), (aOu, .inl (cy 1, 20, .inl (wrS (wrS fO 0 (dgs j ++ [58] ++ dgs (bx (vB σ j)) ++ [108] ++ [45])) (((((0 + (dgs j).length) + 1) + (dgs (bx (vB σ j))).length) + 1) + 1) [42])))]) S9 (c_X8_says l G cy am aS aBf aAs aSv aPa aOu aTx aCo K (((((0 + (dgs j).length) + 1) + (dgs (bx (vB σ j))).length) + 1) + 1) LN PO CM iS 0 iw ea fa 42 (wrS fO 0 (dgs j ++ [58] ++ dgs (bx (vB σ j)) ++ [108] ++ [45])) (by omega) rfl) (cwV 1 hts gX8_renderBath_X8_says rfl rfl rfl (by decide +kernel) ⟨Nat.le_of_ble_eq_true rfl, Nat.le_of_ble_eq_true rfl⟩) PB.blind (va_recv hK.1 hP (ci := 12) (q0 := 0) rfl rfl) (PB.at hK (m_Ppart hP [0, 2] rfl)) hP hD hS [0, 2] rfl rfl m_f2 rfl rfl hl.1 rfl (Nat.le_of_ble_eq_true rfl) ⟨Nat.zero_le _, Nat.zero_le _⟩ dX8_renderBath_103 (fun H locs hP hD hS => ?_)
          rw [wrS_app (ys := [42]) (xs := dgs j ++ [58] ++ dgs (bx (vB σ j)) ++ [108] ++ [45]) (k := 0) (p := ((((0 + (dgs j).length) + 1) + (dgs (bx (vB σ j))).length) + 1) + 1) (by simp only [List.length_append, List.length_cons, List.length_nil] <;> omega)] at hP hD
          have hP : va_P G vwCl [(am, .inr (12, [.ref aS, .ref aBf, .ref aAs, .ref aSv, .int iS, .ref aPa, .int (nI K), .int 0, .ref aOu, .int (nI ((((((0 + (dgs j).length) + 1) + (dgs (bx (vB σ j))).length) + 1) + 1) + 1)), .ref aTx, .int (nI LN), .int (nI PO), .int iw, .int ea, .int fa, .ref aCo, .int (nI CM)])), (aS, .inl (cy 2, 89, .inl (encT (nB σ) (vB σ) (hB σ) (pB σ) (mB σ) (nD σ) (bD σ) (lD σ) (uD σ) (qD σ) (wD σ) (nE σ) (kE σ) (bE σ) (lE σ) (tT σ) (dT σ) (aT σ) (rT σ) (hT σ) (xT σ)))), (aOu, .inl (cy 1, 20, .inl (wrS fO 0 (dgs j ++ [58] ++ dgs (bx (vB σ j)) ++ [108] ++ [45] ++ [42]))))] H := hP
          have hD : va_D (wA [(am, .inr (12, [.ref aS, .ref aBf, .ref aAs, .ref aSv, .int iS, .ref aPa, .int (nI K), .int th, .ref aOu, .int (nI OM), .ref aTx, .int (nI LN), .int (nI PO), .int iw, .int ea, .int fa, .ref aCo, .int (nI CM)])), (aS, .inl (cy 2, 89, .inl (encS σ))), (aOu, .inl (cy 1, 20, .inl fO))]) [(am, .inr (12, [.ref aS, .ref aBf, .ref aAs, .ref aSv, .int iS, .ref aPa, .int (nI K), .int 0, .ref aOu, .int (nI ((((((0 + (dgs j).length) + 1) + (dgs (bx (vB σ j))).length) + 1) + 1) + 1)), .ref aTx, .int (nI LN), .int (nI PO), .int iw, .int ea, .int fa, .ref aCo, .int (nI CM)])), (aS, .inl (cy 2, 89, .inl (encT (nB σ) (vB σ) (hB σ) (pB σ) (mB σ) (nD σ) (bD σ) (lD σ) (uD σ) (qD σ) (wD σ) (nE σ) (kE σ) (bE σ) (lE σ) (tT σ) (dT σ) (aT σ) (rT σ) (hT σ) (xT σ)))), (aOu, .inl (cy 1, 20, .inl (wrS fO 0 (dgs j ++ [58] ++ dgs (bx (vB σ j)) ++ [108] ++ [45] ++ [42]))))] := hD
          refine lv_aload_n hx hb dX8_renderBath_106 rfl (lv_at hl 0 rfl) ?_
          refine va_get (D := G) (ci := 12) (v := .int (nI ((((((0 + (dgs j).length) + 1) + (dgs (bx (vB σ j))).length) + 1) + 1) + 1))) (C := RX8) (T := TX8) (N := 18) hx hb hts hi12 hown hK.1 hP 0 rfl rfl 9 (by decide) hf176 (fun _ h9 => h9) rfl dX8_renderBath_107 ?_
          have e9 : rnd σ j = dgs j ++ [58] ++ dgs (bx (vB σ j)) ++ [108] ++ [45] ++ [42] := by simp [rnd, b_3, z_9, z_12]
          have e8 : ((((((0 + (dgs j).length) + 1) + (dgs (bx (vB σ j))).length) + 1) + 1) + 1) = (rnd σ j).length := by rw [e9]; simp only [List.length_append, List.length_cons, List.length_nil]; omega
          exact wc_iret hx hb hr hlocks (by rw [e8, ← e9] at hP; exact hP) hS (by rw [e8]) dX8_renderBath_110
    · have b_13 : wet (vB σ) j = true := m_ite1.mp c_2
      refine lv_aload_n hx hb dX8_renderBath_54 rfl (lv_at hl 0 rfl) ?_
      refine lv_aload_n hx hb dX8_renderBath_55 rfl (lv_at hl 0 rfl) ?_
      refine lv_iload_n hx hb dX8_renderBath_56 rfl (lv_at hl 1 rfl) ?_
      refine c_roVi S9 (c_X8_degrees l G cy am aS aBf aAs aSv aPa aOu aTx aCo K ((((0 + (dgs j).length) + 1) + (dgs (bx (vB σ j))).length) + 1) LN PO CM iS 0 iw ea fa (nB σ) (vB σ) (hB σ) (pB σ) (mB σ) (nD σ) (bD σ) (lD σ) (uD σ) (qD σ) (wD σ) (nE σ) (kE σ) (bE σ) (lE σ) (tT σ) (dT σ) (aT σ) (rT σ) (hT σ) (xT σ) j (by omega) b_13) (cwV 1 hts gX8_renderBath_X8_degrees rfl rfl rfl (by decide +kernel) ⟨Nat.le_of_ble_eq_true rfl, Nat.le_of_ble_eq_true rfl⟩) PB.blind (va_recv hK.1 hP (ci := 12) (q0 := 0) rfl rfl) (PB.at hK (m_Ppart hP [0, 1] rfl)) rfl hl.1 rfl (Nat.le_of_ble_eq_true rfl) ⟨Nat.zero_le _, Nat.zero_le _⟩ dX8_renderBath_57 ?_
      refine lv_t0 (show rdeg ((hB σ) j) ((vB σ) j) = nI (bx (rdeg (hB σ j) (vB σ j))) from hr9) ?_
      refine c_wcVv (ws' := [(am, .inr (12, [.ref aS, .ref aBf, .ref aAs, .ref aSv, .int iS, .ref aPa, .int (nI K), .int 0, .ref aOu, .int (nI (((((0 + (dgs j).length) + 1) + (dgs (bx (vB σ j))).length) + 1) + (dgs (bx (rdeg (hB σ j) (vB σ j)))).length)), .ref aTx, .int (nI LN), .int (nI PO), .int iw, .int ea, .int fa, .ref aCo, .int (nI CM)])), (aS, .inl (cy 2, 89, .inl (encT (nB σ) (vB σ) (hB σ) (pB σ) (mB σ) (nD σ) (bD σ) (lD σ) (uD σ) (qD σ) (wD σ) (nE σ) (kE σ) (bE σ) (lE σ) (tT σ) (dT σ) (aT σ) (rT σ) (hT σ) (xT σ)))), (aOu, .inl (cy 1, 20, .inl (wrS (wrS fO 0 (dgs j ++ [58] ++ dgs (bx (vB σ j)) ++ [108])) ((((0 + (dgs j).length) + 1) + (dgs (bx (vB σ j))).length) + 1) (dgs (bx (rdeg (hB σ j) (vB σ j)))))))]) S9 (c_X8_saysNumber l G cy am aS aBf aAs aSv aPa aOu aTx aCo K ((((0 + (dgs j).length) + 1) + (dgs (bx (vB σ j))).length) + 1) LN PO CM iS 0 iw ea fa (bx (rdeg (hB σ j) (vB σ j))) (wrS fO 0 (dgs j ++ [58] ++ dgs (bx (vB σ j)) ++ [108])) (by omega) (by omega)) (cwV 1 hts gX8_renderBath_X8_saysNumber rfl rfl rfl (by decide +kernel) ⟨Nat.le_of_ble_eq_true rfl, Nat.le_of_ble_eq_true rfl⟩) PB.blind (va_recv hK.1 hP (ci := 12) (q0 := 0) rfl rfl) (PB.at hK (m_Ppart hP [0, 2] rfl)) hP hD hS [0, 2] rfl rfl m_f2 rfl rfl hl.1 rfl (Nat.le_of_ble_eq_true rfl) ⟨Nat.zero_le _, Nat.zero_le _⟩ dX8_renderBath_60 (fun H locs hP hD hS => ?_)
      rw [wrS_app (ys := dgs (bx (rdeg (hB σ j) (vB σ j)))) (xs := dgs j ++ [58] ++ dgs (bx (vB σ j)) ++ [108]) (k := 0) (p := (((0 + (dgs j).length) + 1) + (dgs (bx (vB σ j))).length) + 1) (by simp only [List.length_append, List.length_cons, List.length_nil] <;> omega)] at hP hD
      have hP : va_P G vwCl [(am, .inr (12, [.ref aS, .ref aBf, .ref aAs, .ref aSv, .int iS, .ref aPa, .int (nI K), .int 0, .ref aOu, .int (nI (((((0 + (dgs j).length) + 1) + (dgs (bx (vB σ j))).length) + 1) + (dgs (bx (rdeg (hB σ j) (vB σ j)))).length)), .ref aTx, .int (nI LN), .int (nI PO), .int iw, .int ea, .int fa, .ref aCo, .int (nI CM)])), (aS, .inl (cy 2, 89, .inl (encT (nB σ) (vB σ) (hB σ) (pB σ) (mB σ) (nD σ) (bD σ) (lD σ) (uD σ) (qD σ) (wD σ) (nE σ) (kE σ) (bE σ) (lE σ) (tT σ) (dT σ) (aT σ) (rT σ) (hT σ) (xT σ)))), (aOu, .inl (cy 1, 20, .inl (wrS fO 0 (dgs j ++ [58] ++ dgs (bx (vB σ j)) ++ [108] ++ dgs (bx (rdeg (hB σ j) (vB σ j)))))))] H := hP
      have hD : va_D (wA [(am, .inr (12, [.ref aS, .ref aBf, .ref aAs, .ref aSv, .int iS, .ref aPa, .int (nI K), .int th, .ref aOu, .int (nI OM), .ref aTx, .int (nI LN), .int (nI PO), .int iw, .int ea, .int fa, .ref aCo, .int (nI CM)])), (aS, .inl (cy 2, 89, .inl (encS σ))), (aOu, .inl (cy 1, 20, .inl fO))]) [(am, .inr (12, [.ref aS, .ref aBf, .ref aAs, .ref aSv, .int iS, .ref aPa, .int (nI K), .int 0, .ref aOu, .int (nI (((((0 + (dgs j).length) + 1) + (dgs (bx (vB σ j))).length) + 1) + (dgs (bx (rdeg (hB σ j) (vB σ j)))).length)), .ref aTx, .int (nI LN), .int (nI PO), .int iw, .int ea, .int fa, .ref aCo, .int (nI CM)])), (aS, .inl (cy 2, 89, .inl (encT (nB σ) (vB σ) (hB σ) (pB σ) (mB σ) (nD σ) (bD σ) (lD σ) (uD σ) (qD σ) (wD σ) (nE σ) (kE σ) (bE σ) (lE σ) (tT σ) (dT σ) (aT σ) (rT σ) (hT σ) (xT σ)))), (aOu, .inl (cy 1, 20, .inl (wrS fO 0 (dgs j ++ [58] ++ dgs (bx (vB σ j)) ++ [108] ++ dgs (bx (rdeg (hB σ j) (vB σ j)))))))] := hD
      refine lv_aload_n hx hb dX8_renderBath_63 rfl (lv_at hl 0 rfl) ?_
      refine lv_bipush (v := 67) hx hb dX8_renderBath_64 (by decide) ?_
      refine c_wcVv (ws' := [(am, .inr (12, [.ref aS, .ref aBf, .ref aAs, .ref aSv, .int iS, .ref aPa, .int (nI K), .int 0, .ref aOu, .int (nI ((((((0 + (dgs j).length) + 1) + (dgs (bx (vB σ j))).length) + 1) + (dgs (bx (rdeg (hB σ j) (vB σ j)))).length) + 1)), .ref aTx, .int (nI LN), .int (nI PO), .int iw, .int ea, .int fa, .ref aCo, .int (nI CM)])), (aS, .inl (cy 2, 89, .inl (encT (nB σ) (vB σ) (hB σ) (pB σ) (mB σ) (nD σ) (bD σ) (lD σ) (uD σ) (qD σ) (wD σ) (nE σ) (kE σ) (bE σ) (lE σ) (tT σ) (dT σ) (aT σ) (rT σ) (hT σ) (xT σ)))), (aOu, .inl (cy 1, 20, .inl (wrS (wrS fO 0 (dgs j ++ [58] ++ dgs (bx (vB σ j)) ++ [108] ++ dgs (bx (rdeg (hB σ j) (vB σ j))))) (((((0 + (dgs j).length) + 1) + (dgs (bx (vB σ j))).length) + 1) + (dgs (bx (rdeg (hB σ j) (vB σ j)))).length) [67])))]) S9 (c_X8_says l G cy am aS aBf aAs aSv aPa aOu aTx aCo K (((((0 + (dgs j).length) + 1) + (dgs (bx (vB σ j))).length) + 1) + (dgs (bx (rdeg (hB σ j) (vB σ j)))).length) LN PO CM iS 0 iw ea fa 67 (wrS fO 0 (dgs j ++ [58] ++ dgs (bx (vB σ j)) ++ [108] ++ dgs (bx (rdeg (hB σ j) (vB σ j))))) (by omega) rfl) (cwV 1 hts gX8_renderBath_X8_says rfl rfl rfl (by decide +kernel) ⟨Nat.le_of_ble_eq_true rfl, Nat.le_of_ble_eq_true rfl⟩) PB.blind (va_recv hK.1 hP (ci := 12) (q0 := 0) rfl rfl) (PB.at hK (m_Ppart hP [0, 2] rfl)) hP hD hS [0, 2] rfl rfl m_f2 rfl rfl hl.1 rfl (Nat.le_of_ble_eq_true rfl) ⟨Nat.zero_le _, Nat.zero_le _⟩ dX8_renderBath_66 (fun H locs hP hD hS => ?_)
      rw [wrS_app (ys := [67]) (xs := dgs j ++ [58] ++ dgs (bx (vB σ j)) ++ [108] ++ dgs (bx (rdeg (hB σ j) (vB σ j)))) (k := 0) (p := ((((0 + (dgs j).length) + 1) + (dgs (bx (vB σ j))).length) + 1) + (dgs (bx (rdeg (hB σ j) (vB σ j)))).length) (by simp only [List.length_append, List.length_cons, List.length_nil] <;> omega)] at hP hD
      have hP : va_P G vwCl [(am, .inr (12, [.ref aS, .ref aBf, .ref aAs, .ref aSv, .int iS, .ref aPa, .int (nI K), .int 0, .ref aOu, .int (nI ((((((0 + (dgs j).length) + 1) + (dgs (bx (vB σ j))).length) + 1) + (dgs (bx (rdeg (hB σ j) (vB σ j)))).length) + 1)), .ref aTx, .int (nI LN), .int (nI PO), .int iw, .int ea, .int fa, .ref aCo, .int (nI CM)])), (aS, .inl (cy 2, 89, .inl (encT (nB σ) (vB σ) (hB σ) (pB σ) (mB σ) (nD σ) (bD σ) (lD σ) (uD σ) (qD σ) (wD σ) (nE σ) (kE σ) (bE σ) (lE σ) (tT σ) (dT σ) (aT σ) (rT σ) (hT σ) (xT σ)))), (aOu, .inl (cy 1, 20, .inl (wrS fO 0 (dgs j ++ [58] ++ dgs (bx (vB σ j)) ++ [108] ++ dgs (bx (rdeg (hB σ j) (vB σ j))) ++ [67]))))] H := hP
      have hD : va_D (wA [(am, .inr (12, [.ref aS, .ref aBf, .ref aAs, .ref aSv, .int iS, .ref aPa, .int (nI K), .int th, .ref aOu, .int (nI OM), .ref aTx, .int (nI LN), .int (nI PO), .int iw, .int ea, .int fa, .ref aCo, .int (nI CM)])), (aS, .inl (cy 2, 89, .inl (encS σ))), (aOu, .inl (cy 1, 20, .inl fO))]) [(am, .inr (12, [.ref aS, .ref aBf, .ref aAs, .ref aSv, .int iS, .ref aPa, .int (nI K), .int 0, .ref aOu, .int (nI ((((((0 + (dgs j).length) + 1) + (dgs (bx (vB σ j))).length) + 1) + (dgs (bx (rdeg (hB σ j) (vB σ j)))).length) + 1)), .ref aTx, .int (nI LN), .int (nI PO), .int iw, .int ea, .int fa, .ref aCo, .int (nI CM)])), (aS, .inl (cy 2, 89, .inl (encT (nB σ) (vB σ) (hB σ) (pB σ) (mB σ) (nD σ) (bD σ) (lD σ) (uD σ) (qD σ) (wD σ) (nE σ) (kE σ) (bE σ) (lE σ) (tT σ) (dT σ) (aT σ) (rT σ) (hT σ) (xT σ)))), (aOu, .inl (cy 1, 20, .inl (wrS fO 0 (dgs j ++ [58] ++ dgs (bx (vB σ j)) ++ [108] ++ dgs (bx (rdeg (hB σ j) (vB σ j))) ++ [67]))))] := hD
      refine lv_aload_n hx hb dX8_renderBath_69 rfl (lv_at hl 0 rfl) ?_
      refine lv_aload_n hx hb dX8_renderBath_70 rfl (lv_at hl 0 rfl) ?_
      refine lv_iload_n hx hb dX8_renderBath_71 rfl (lv_at hl 1 rfl) ?_
      refine lv_iconst (v := 2) hx hb dX8_renderBath_72 (by decide) ?_
      refine c_roVi S9 (c_X8_of_o l G cy am aS aBf aAs aSv aPa aOu aTx aCo K ((((((0 + (dgs j).length) + 1) + (dgs (bx (vB σ j))).length) + 1) + (dgs (bx (rdeg (hB σ j) (vB σ j)))).length) + 1) LN PO CM iS 0 iw ea fa (nB σ) (vB σ) (hB σ) (pB σ) (mB σ) (nD σ) (bD σ) (lD σ) (uD σ) (qD σ) (wD σ) (nE σ) (kE σ) (bE σ) (lE σ) (tT σ) (dT σ) (aT σ) (rT σ) (hT σ) (xT σ) j (by omega)) (cwV 2 hts gX8_renderBath_X8_of rfl rfl rfl (by decide +kernel) ⟨Nat.le_of_ble_eq_true rfl, Nat.le_of_ble_eq_true rfl⟩) PB.blind (va_recv hK.1 hP (ci := 12) (q0 := 0) rfl rfl) (PB.at hK (m_Ppart hP [0, 1] rfl)) rfl hl.1 rfl (Nat.le_of_ble_eq_true rfl) ⟨Nat.zero_le _, Nat.zero_le _⟩ dX8_renderBath_73 ?_
      refine lv_iconst (v := 1) hx hb dX8_renderBath_76 (by decide) ?_
      refine lv_icmp_ne (tgt := 85) hx hb dX8_renderBath_77 (by decide) (fun c_14 => ?_) (fun c_14 => ?_)
      · have z_15 : ¬ pB σ j = 0 := fun q => c_14 (m_iteP.mpr ⟨q, by omega⟩)
        refine lv_bipush (v := 43) hx hb dX8_renderBath_85 (by decide) ?_
        refine c_wcVv (ws' := [(am, .inr (12, [.ref aS, .ref aBf, .ref aAs, .ref aSv, .int iS, .ref aPa, .int (nI K), .int 0, .ref aOu, .int (nI (((((((0 + (dgs j).length) + 1) + (dgs (bx (vB σ j))).length) + 1) + (dgs (bx (rdeg (hB σ j) (vB σ j)))).length) + 1) + 1)), .ref aTx, .int (nI LN), .int (nI PO), .int iw, .int ea, .int fa, .ref aCo, .int (nI CM)])), (aS, .inl (cy 2, 89, .inl (encT (nB σ) (vB σ) (hB σ) (pB σ) (mB σ) (nD σ) (bD σ) (lD σ) (uD σ) (qD σ) (wD σ) (nE σ) (kE σ) (bE σ) (lE σ) (tT σ) (dT σ) (aT σ) (rT σ) (hT σ) (xT σ)))), (aOu, .inl (cy 1, 20, .inl (wrS (wrS fO 0 (dgs j ++ [58] ++ dgs (bx (vB σ j)) ++ [108] ++ dgs (bx (rdeg (hB σ j) (vB σ j))) ++ [67])) ((((((0 + (dgs j).length) + 1) + (dgs (bx (vB σ j))).length) + 1) + (dgs (bx (rdeg (hB σ j) (vB σ j)))).length) + 1) [43])))]) S9 (c_X8_says l G cy am aS aBf aAs aSv aPa aOu aTx aCo K ((((((0 + (dgs j).length) + 1) + (dgs (bx (vB σ j))).length) + 1) + (dgs (bx (rdeg (hB σ j) (vB σ j)))).length) + 1) LN PO CM iS 0 iw ea fa 43 (wrS fO 0 (dgs j ++ [58] ++ dgs (bx (vB σ j)) ++ [108] ++ dgs (bx (rdeg (hB σ j) (vB σ j))) ++ [67])) (by omega) rfl) (cwV 1 hts gX8_renderBath_X8_says rfl rfl rfl (by decide +kernel) ⟨Nat.le_of_ble_eq_true rfl, Nat.le_of_ble_eq_true rfl⟩) PB.blind (va_recv hK.1 hP (ci := 12) (q0 := 0) rfl rfl) (PB.at hK (m_Ppart hP [0, 2] rfl)) hP hD hS [0, 2] rfl rfl m_f2 rfl rfl hl.1 rfl (Nat.le_of_ble_eq_true rfl) ⟨Nat.zero_le _, Nat.zero_le _⟩ dX8_renderBath_87 (fun H locs hP hD hS => ?_)
        rw [wrS_app (ys := [43]) (xs := dgs j ++ [58] ++ dgs (bx (vB σ j)) ++ [108] ++ dgs (bx (rdeg (hB σ j) (vB σ j))) ++ [67]) (k := 0) (p := (((((0 + (dgs j).length) + 1) + (dgs (bx (vB σ j))).length) + 1) + (dgs (bx (rdeg (hB σ j) (vB σ j)))).length) + 1) (by simp only [List.length_append, List.length_cons, List.length_nil] <;> omega)] at hP hD
        have hP : va_P G vwCl [(am, .inr (12, [.ref aS, .ref aBf, .ref aAs, .ref aSv, .int iS, .ref aPa, .int (nI K), .int 0, .ref aOu, .int (nI (((((((0 + (dgs j).length) + 1) + (dgs (bx (vB σ j))).length) + 1) + (dgs (bx (rdeg (hB σ j) (vB σ j)))).length) + 1) + 1)), .ref aTx, .int (nI LN), .int (nI PO), .int iw, .int ea, .int fa, .ref aCo, .int (nI CM)])), (aS, .inl (cy 2, 89, .inl (encT (nB σ) (vB σ) (hB σ) (pB σ) (mB σ) (nD σ) (bD σ) (lD σ) (uD σ) (qD σ) (wD σ) (nE σ) (kE σ) (bE σ) (lE σ) (tT σ) (dT σ) (aT σ) (rT σ) (hT σ) (xT σ)))), (aOu, .inl (cy 1, 20, .inl (wrS fO 0 (dgs j ++ [58] ++ dgs (bx (vB σ j)) ++ [108] ++ dgs (bx (rdeg (hB σ j) (vB σ j))) ++ [67] ++ [43]))))] H := hP
        have hD : va_D (wA [(am, .inr (12, [.ref aS, .ref aBf, .ref aAs, .ref aSv, .int iS, .ref aPa, .int (nI K), .int th, .ref aOu, .int (nI OM), .ref aTx, .int (nI LN), .int (nI PO), .int iw, .int ea, .int fa, .ref aCo, .int (nI CM)])), (aS, .inl (cy 2, 89, .inl (encS σ))), (aOu, .inl (cy 1, 20, .inl fO))]) [(am, .inr (12, [.ref aS, .ref aBf, .ref aAs, .ref aSv, .int iS, .ref aPa, .int (nI K), .int 0, .ref aOu, .int (nI (((((((0 + (dgs j).length) + 1) + (dgs (bx (vB σ j))).length) + 1) + (dgs (bx (rdeg (hB σ j) (vB σ j)))).length) + 1) + 1)), .ref aTx, .int (nI LN), .int (nI PO), .int iw, .int ea, .int fa, .ref aCo, .int (nI CM)])), (aS, .inl (cy 2, 89, .inl (encT (nB σ) (vB σ) (hB σ) (pB σ) (mB σ) (nD σ) (bD σ) (lD σ) (uD σ) (qD σ) (wD σ) (nE σ) (kE σ) (bE σ) (lE σ) (tT σ) (dT σ) (aT σ) (rT σ) (hT σ) (xT σ)))), (aOu, .inl (cy 1, 20, .inl (wrS fO 0 (dgs j ++ [58] ++ dgs (bx (vB σ j)) ++ [108] ++ dgs (bx (rdeg (hB σ j) (vB σ j))) ++ [67] ++ [43]))))] := hD
        refine lv_aload_n hx hb dX8_renderBath_90 rfl (lv_at hl 0 rfl) ?_
        refine lv_iload_n hx hb dX8_renderBath_91 rfl (lv_at hl 1 rfl) ?_
        refine lv_iconst (v := 3) hx hb dX8_renderBath_92 (by decide) ?_
        refine c_roVi S9 (c_X8_of_m l G cy am aS aBf aAs aSv aPa aOu aTx aCo K (((((((0 + (dgs j).length) + 1) + (dgs (bx (vB σ j))).length) + 1) + (dgs (bx (rdeg (hB σ j) (vB σ j)))).length) + 1) + 1) LN PO CM iS 0 iw ea fa (nB σ) (vB σ) (hB σ) (pB σ) (mB σ) (nD σ) (bD σ) (lD σ) (uD σ) (qD σ) (wD σ) (nE σ) (kE σ) (bE σ) (lE σ) (tT σ) (dT σ) (aT σ) (rT σ) (hT σ) (xT σ) j (by omega)) (cwV 2 hts gX8_renderBath_X8_of rfl rfl rfl (by decide +kernel) ⟨Nat.le_of_ble_eq_true rfl, Nat.le_of_ble_eq_true rfl⟩) PB.blind (va_recv hK.1 hP (ci := 12) (q0 := 0) rfl rfl) (PB.at hK (m_Ppart hP [0, 1] rfl)) rfl hl.1 rfl (Nat.le_of_ble_eq_true rfl) ⟨Nat.zero_le _, Nat.zero_le _⟩ dX8_renderBath_93 ?_
        refine lv_iconst (v := 1) hx hb dX8_renderBath_96 (by decide) ?_
        refine lv_icmp_ne (tgt := 106) hx hb dX8_renderBath_97 (by decide) (fun c_16 => ?_) (fun c_16 => ?_)
        · have z_17 : ((mB σ) j) = 0 := (ho.m01 j (by omega)).resolve_right c_16
          refine lv_aload_n hx hb dX8_renderBath_106 rfl (lv_at hl 0 rfl) ?_
          refine va_get (D := G) (ci := 12) (v := .int (nI (((((((0 + (dgs j).length) + 1) + (dgs (bx (vB σ j))).length) + 1) + (dgs (bx (rdeg (hB σ j) (vB σ j)))).length) + 1) + 1))) (C := RX8) (T := TX8) (N := 18) hx hb hts hi12 hown hK.1 hP 0 rfl rfl 9 (by decide) hf176 (fun _ h9 => h9) rfl dX8_renderBath_107 ?_
          have e9 : rnd σ j = dgs j ++ [58] ++ dgs (bx (vB σ j)) ++ [108] ++ dgs (bx (rdeg (hB σ j) (vB σ j))) ++ [67] ++ [43] := by simp [rnd, b_13, z_15, z_17]
          have e8 : (((((((0 + (dgs j).length) + 1) + (dgs (bx (vB σ j))).length) + 1) + (dgs (bx (rdeg (hB σ j) (vB σ j)))).length) + 1) + 1) = (rnd σ j).length := by rw [e9]; simp only [List.length_append, List.length_cons, List.length_nil]; omega
          exact wc_iret hx hb hr hlocks (by rw [e8, ← e9] at hP; exact hP) hS (by rw [e8]) dX8_renderBath_110
        · have z_18 : ¬ ((mB σ) j) = 0 := m_fl1 c_16
          refine lv_aload_n hx hb dX8_renderBath_100 rfl (lv_at hl 0 rfl) ?_
          refine lv_bipush (v := 42) hx hb dX8_renderBath_101 (by decide) ?_
          refine c_wcVv (ws' := [(am, .inr (12, [.ref aS, .ref aBf, .ref aAs, .ref aSv, .int iS, .ref aPa, .int (nI K), .int 0, .ref aOu, .int (nI ((((((((0 + (dgs j).length) + 1) + (dgs (bx (vB σ j))).length) + 1) + (dgs (bx (rdeg (hB σ j) (vB σ j)))).length) + 1) + 1) + 1)), .ref aTx, .int (nI LN), .int (nI PO), .int iw, .int ea, .int fa, .ref aCo, .int (nI CM)])), (aS, .inl (cy 2, 89, .inl (encT (nB σ) (vB σ) (hB σ) (pB σ) (mB σ) (nD σ) (bD σ) (lD σ) (uD σ) (qD σ) (wD σ) (nE σ) (kE σ) (bE σ) (lE σ) (tT σ) (dT σ) (aT σ) (rT σ) (hT σ) (xT σ)))), (aOu, .inl (cy 1, 20, .inl (wrS (wrS fO 0 (dgs j ++ [58] ++ dgs (bx (vB σ j)) ++ [108] ++ dgs (bx (rdeg (hB σ j) (vB σ j))) ++ [67] ++ [43])) (((((((0 + (dgs j).length) + 1) + (dgs (bx (vB σ j))).length) + 1) + (dgs (bx (rdeg (hB σ j) (vB σ j)))).length) + 1) + 1) [42])))]) S9 (c_X8_says l G cy am aS aBf aAs aSv aPa aOu aTx aCo K (((((((0 + (dgs j).length) + 1) + (dgs (bx (vB σ j))).length) + 1) + (dgs (bx (rdeg (hB σ j) (vB σ j)))).length) + 1) + 1) LN PO CM iS 0 iw ea fa 42 (wrS fO 0 (dgs j ++ [58] ++ dgs (bx (vB σ j)) ++ [108] ++ dgs (bx (rdeg (hB σ j) (vB σ j))) ++ [67] ++ [43])) (by omega) rfl) (cwV 1 hts gX8_renderBath_X8_says rfl rfl rfl (by decide +kernel) ⟨Nat.le_of_ble_eq_true rfl, Nat.le_of_ble_eq_true rfl⟩) PB.blind (va_recv hK.1 hP (ci := 12) (q0 := 0) rfl rfl) (PB.at hK (m_Ppart hP [0, 2] rfl)) hP hD hS [0, 2] rfl rfl m_f2 rfl rfl hl.1 rfl (Nat.le_of_ble_eq_true rfl) ⟨Nat.zero_le _, Nat.zero_le _⟩ dX8_renderBath_103 (fun H locs hP hD hS => ?_)
          rw [wrS_app (ys := [42]) (xs := dgs j ++ [58] ++ dgs (bx (vB σ j)) ++ [108] ++ dgs (bx (rdeg (hB σ j) (vB σ j))) ++ [67] ++ [43]) (k := 0) (p := ((((((0 + (dgs j).length) + 1) + (dgs (bx (vB σ j))).length) + 1) + (dgs (bx (rdeg (hB σ j) (vB σ j)))).length) + 1) + 1) (by simp only [List.length_append, List.length_cons, List.length_nil] <;> omega)] at hP hD
          have hP : va_P G vwCl [(am, .inr (12, [.ref aS, .ref aBf, .ref aAs, .ref aSv, .int iS, .ref aPa, .int (nI K), .int 0, .ref aOu, .int (nI ((((((((0 + (dgs j).length) + 1) + (dgs (bx (vB σ j))).length) + 1) + (dgs (bx (rdeg (hB σ j) (vB σ j)))).length) + 1) + 1) + 1)), .ref aTx, .int (nI LN), .int (nI PO), .int iw, .int ea, .int fa, .ref aCo, .int (nI CM)])), (aS, .inl (cy 2, 89, .inl (encT (nB σ) (vB σ) (hB σ) (pB σ) (mB σ) (nD σ) (bD σ) (lD σ) (uD σ) (qD σ) (wD σ) (nE σ) (kE σ) (bE σ) (lE σ) (tT σ) (dT σ) (aT σ) (rT σ) (hT σ) (xT σ)))), (aOu, .inl (cy 1, 20, .inl (wrS fO 0 (dgs j ++ [58] ++ dgs (bx (vB σ j)) ++ [108] ++ dgs (bx (rdeg (hB σ j) (vB σ j))) ++ [67] ++ [43] ++ [42]))))] H := hP
          have hD : va_D (wA [(am, .inr (12, [.ref aS, .ref aBf, .ref aAs, .ref aSv, .int iS, .ref aPa, .int (nI K), .int th, .ref aOu, .int (nI OM), .ref aTx, .int (nI LN), .int (nI PO), .int iw, .int ea, .int fa, .ref aCo, .int (nI CM)])), (aS, .inl (cy 2, 89, .inl (encS σ))), (aOu, .inl (cy 1, 20, .inl fO))]) [(am, .inr (12, [.ref aS, .ref aBf, .ref aAs, .ref aSv, .int iS, .ref aPa, .int (nI K), .int 0, .ref aOu, .int (nI ((((((((0 + (dgs j).length) + 1) + (dgs (bx (vB σ j))).length) + 1) + (dgs (bx (rdeg (hB σ j) (vB σ j)))).length) + 1) + 1) + 1)), .ref aTx, .int (nI LN), .int (nI PO), .int iw, .int ea, .int fa, .ref aCo, .int (nI CM)])), (aS, .inl (cy 2, 89, .inl (encT (nB σ) (vB σ) (hB σ) (pB σ) (mB σ) (nD σ) (bD σ) (lD σ) (uD σ) (qD σ) (wD σ) (nE σ) (kE σ) (bE σ) (lE σ) (tT σ) (dT σ) (aT σ) (rT σ) (hT σ) (xT σ)))), (aOu, .inl (cy 1, 20, .inl (wrS fO 0 (dgs j ++ [58] ++ dgs (bx (vB σ j)) ++ [108] ++ dgs (bx (rdeg (hB σ j) (vB σ j))) ++ [67] ++ [43] ++ [42]))))] := hD
          refine lv_aload_n hx hb dX8_renderBath_106 rfl (lv_at hl 0 rfl) ?_
          refine va_get (D := G) (ci := 12) (v := .int (nI ((((((((0 + (dgs j).length) + 1) + (dgs (bx (vB σ j))).length) + 1) + (dgs (bx (rdeg (hB σ j) (vB σ j)))).length) + 1) + 1) + 1))) (C := RX8) (T := TX8) (N := 18) hx hb hts hi12 hown hK.1 hP 0 rfl rfl 9 (by decide) hf176 (fun _ h9 => h9) rfl dX8_renderBath_107 ?_
          have e9 : rnd σ j = dgs j ++ [58] ++ dgs (bx (vB σ j)) ++ [108] ++ dgs (bx (rdeg (hB σ j) (vB σ j))) ++ [67] ++ [43] ++ [42] := by simp [rnd, b_13, z_15, z_18]
          have e8 : ((((((((0 + (dgs j).length) + 1) + (dgs (bx (vB σ j))).length) + 1) + (dgs (bx (rdeg (hB σ j) (vB σ j)))).length) + 1) + 1) + 1) = (rnd σ j).length := by rw [e9]; simp only [List.length_append, List.length_cons, List.length_nil]; omega
          exact wc_iret hx hb hr hlocks (by rw [e8, ← e9] at hP; exact hP) hS (by rw [e8]) dX8_renderBath_110
      · have z_19 : pB σ j = 0 := (m_iteP.mp c_14).1
        refine lv_bipush (v := 45) hx hb dX8_renderBath_80 (by decide) ?_
        refine lv_goto (tgt := 87) hx hb dX8_renderBath_82 (by decide) ?_
        refine c_wcVv (ws' := [(am, .inr (12, [.ref aS, .ref aBf, .ref aAs, .ref aSv, .int iS, .ref aPa, .int (nI K), .int 0, .ref aOu, .int (nI (((((((0 + (dgs j).length) + 1) + (dgs (bx (vB σ j))).length) + 1) + (dgs (bx (rdeg (hB σ j) (vB σ j)))).length) + 1) + 1)), .ref aTx, .int (nI LN), .int (nI PO), .int iw, .int ea, .int fa, .ref aCo, .int (nI CM)])), (aS, .inl (cy 2, 89, .inl (encT (nB σ) (vB σ) (hB σ) (pB σ) (mB σ) (nD σ) (bD σ) (lD σ) (uD σ) (qD σ) (wD σ) (nE σ) (kE σ) (bE σ) (lE σ) (tT σ) (dT σ) (aT σ) (rT σ) (hT σ) (xT σ)))), (aOu, .inl (cy 1, 20, .inl (wrS (wrS fO 0 (dgs j ++ [58] ++ dgs (bx (vB σ j)) ++ [108] ++ dgs (bx (rdeg (hB σ j) (vB σ j))) ++ [67])) ((((((0 + (dgs j).length) + 1) + (dgs (bx (vB σ j))).length) + 1) + (dgs (bx (rdeg (hB σ j) (vB σ j)))).length) + 1) [45])))]) S9 (c_X8_says l G cy am aS aBf aAs aSv aPa aOu aTx aCo K ((((((0 + (dgs j).length) + 1) + (dgs (bx (vB σ j))).length) + 1) + (dgs (bx (rdeg (hB σ j) (vB σ j)))).length) + 1) LN PO CM iS 0 iw ea fa 45 (wrS fO 0 (dgs j ++ [58] ++ dgs (bx (vB σ j)) ++ [108] ++ dgs (bx (rdeg (hB σ j) (vB σ j))) ++ [67])) (by omega) rfl) (cwV 1 hts gX8_renderBath_X8_says rfl rfl rfl (by decide +kernel) ⟨Nat.le_of_ble_eq_true rfl, Nat.le_of_ble_eq_true rfl⟩) PB.blind (va_recv hK.1 hP (ci := 12) (q0 := 0) rfl rfl) (PB.at hK (m_Ppart hP [0, 2] rfl)) hP hD hS [0, 2] rfl rfl m_f2 rfl rfl hl.1 rfl (Nat.le_of_ble_eq_true rfl) ⟨Nat.zero_le _, Nat.zero_le _⟩ dX8_renderBath_87 (fun H locs hP hD hS => ?_)
        rw [wrS_app (ys := [45]) (xs := dgs j ++ [58] ++ dgs (bx (vB σ j)) ++ [108] ++ dgs (bx (rdeg (hB σ j) (vB σ j))) ++ [67]) (k := 0) (p := (((((0 + (dgs j).length) + 1) + (dgs (bx (vB σ j))).length) + 1) + (dgs (bx (rdeg (hB σ j) (vB σ j)))).length) + 1) (by simp only [List.length_append, List.length_cons, List.length_nil] <;> omega)] at hP hD
        have hP : va_P G vwCl [(am, .inr (12, [.ref aS, .ref aBf, .ref aAs, .ref aSv, .int iS, .ref aPa, .int (nI K), .int 0, .ref aOu, .int (nI (((((((0 + (dgs j).length) + 1) + (dgs (bx (vB σ j))).length) + 1) + (dgs (bx (rdeg (hB σ j) (vB σ j)))).length) + 1) + 1)), .ref aTx, .int (nI LN), .int (nI PO), .int iw, .int ea, .int fa, .ref aCo, .int (nI CM)])), (aS, .inl (cy 2, 89, .inl (encT (nB σ) (vB σ) (hB σ) (pB σ) (mB σ) (nD σ) (bD σ) (lD σ) (uD σ) (qD σ) (wD σ) (nE σ) (kE σ) (bE σ) (lE σ) (tT σ) (dT σ) (aT σ) (rT σ) (hT σ) (xT σ)))), (aOu, .inl (cy 1, 20, .inl (wrS fO 0 (dgs j ++ [58] ++ dgs (bx (vB σ j)) ++ [108] ++ dgs (bx (rdeg (hB σ j) (vB σ j))) ++ [67] ++ [45]))))] H := hP
        have hD : va_D (wA [(am, .inr (12, [.ref aS, .ref aBf, .ref aAs, .ref aSv, .int iS, .ref aPa, .int (nI K), .int th, .ref aOu, .int (nI OM), .ref aTx, .int (nI LN), .int (nI PO), .int iw, .int ea, .int fa, .ref aCo, .int (nI CM)])), (aS, .inl (cy 2, 89, .inl (encS σ))), (aOu, .inl (cy 1, 20, .inl fO))]) [(am, .inr (12, [.ref aS, .ref aBf, .ref aAs, .ref aSv, .int iS, .ref aPa, .int (nI K), .int 0, .ref aOu, .int (nI (((((((0 + (dgs j).length) + 1) + (dgs (bx (vB σ j))).length) + 1) + (dgs (bx (rdeg (hB σ j) (vB σ j)))).length) + 1) + 1)), .ref aTx, .int (nI LN), .int (nI PO), .int iw, .int ea, .int fa, .ref aCo, .int (nI CM)])), (aS, .inl (cy 2, 89, .inl (encT (nB σ) (vB σ) (hB σ) (pB σ) (mB σ) (nD σ) (bD σ) (lD σ) (uD σ) (qD σ) (wD σ) (nE σ) (kE σ) (bE σ) (lE σ) (tT σ) (dT σ) (aT σ) (rT σ) (hT σ) (xT σ)))), (aOu, .inl (cy 1, 20, .inl (wrS fO 0 (dgs j ++ [58] ++ dgs (bx (vB σ j)) ++ [108] ++ dgs (bx (rdeg (hB σ j) (vB σ j))) ++ [67] ++ [45]))))] := hD
        refine lv_aload_n hx hb dX8_renderBath_90 rfl (lv_at hl 0 rfl) ?_
        refine lv_iload_n hx hb dX8_renderBath_91 rfl (lv_at hl 1 rfl) ?_
        refine lv_iconst (v := 3) hx hb dX8_renderBath_92 (by decide) ?_
        refine c_roVi S9 (c_X8_of_m l G cy am aS aBf aAs aSv aPa aOu aTx aCo K (((((((0 + (dgs j).length) + 1) + (dgs (bx (vB σ j))).length) + 1) + (dgs (bx (rdeg (hB σ j) (vB σ j)))).length) + 1) + 1) LN PO CM iS 0 iw ea fa (nB σ) (vB σ) (hB σ) (pB σ) (mB σ) (nD σ) (bD σ) (lD σ) (uD σ) (qD σ) (wD σ) (nE σ) (kE σ) (bE σ) (lE σ) (tT σ) (dT σ) (aT σ) (rT σ) (hT σ) (xT σ) j (by omega)) (cwV 2 hts gX8_renderBath_X8_of rfl rfl rfl (by decide +kernel) ⟨Nat.le_of_ble_eq_true rfl, Nat.le_of_ble_eq_true rfl⟩) PB.blind (va_recv hK.1 hP (ci := 12) (q0 := 0) rfl rfl) (PB.at hK (m_Ppart hP [0, 1] rfl)) rfl hl.1 rfl (Nat.le_of_ble_eq_true rfl) ⟨Nat.zero_le _, Nat.zero_le _⟩ dX8_renderBath_93 ?_
        refine lv_iconst (v := 1) hx hb dX8_renderBath_96 (by decide) ?_
        refine lv_icmp_ne (tgt := 106) hx hb dX8_renderBath_97 (by decide) (fun c_20 => ?_) (fun c_20 => ?_)
        · have z_21 : ((mB σ) j) = 0 := (ho.m01 j (by omega)).resolve_right c_20
          refine lv_aload_n hx hb dX8_renderBath_106 rfl (lv_at hl 0 rfl) ?_
          refine va_get (D := G) (ci := 12) (v := .int (nI (((((((0 + (dgs j).length) + 1) + (dgs (bx (vB σ j))).length) + 1) + (dgs (bx (rdeg (hB σ j) (vB σ j)))).length) + 1) + 1))) (C := RX8) (T := TX8) (N := 18) hx hb hts hi12 hown hK.1 hP 0 rfl rfl 9 (by decide) hf176 (fun _ h9 => h9) rfl dX8_renderBath_107 ?_
          have e9 : rnd σ j = dgs j ++ [58] ++ dgs (bx (vB σ j)) ++ [108] ++ dgs (bx (rdeg (hB σ j) (vB σ j))) ++ [67] ++ [45] := by simp [rnd, b_13, z_19, z_21]
          have e8 : (((((((0 + (dgs j).length) + 1) + (dgs (bx (vB σ j))).length) + 1) + (dgs (bx (rdeg (hB σ j) (vB σ j)))).length) + 1) + 1) = (rnd σ j).length := by rw [e9]; simp only [List.length_append, List.length_cons, List.length_nil]; omega
          exact wc_iret hx hb hr hlocks (by rw [e8, ← e9] at hP; exact hP) hS (by rw [e8]) dX8_renderBath_110
        · have z_22 : ¬ ((mB σ) j) = 0 := m_fl1 c_20
          refine lv_aload_n hx hb dX8_renderBath_100 rfl (lv_at hl 0 rfl) ?_
          refine lv_bipush (v := 42) hx hb dX8_renderBath_101 (by decide) ?_
          refine c_wcVv (ws' := [(am, .inr (12, [.ref aS, .ref aBf, .ref aAs, .ref aSv, .int iS, .ref aPa, .int (nI K), .int 0, .ref aOu, .int (nI ((((((((0 + (dgs j).length) + 1) + (dgs (bx (vB σ j))).length) + 1) + (dgs (bx (rdeg (hB σ j) (vB σ j)))).length) + 1) + 1) + 1)), .ref aTx, .int (nI LN), .int (nI PO), .int iw, .int ea, .int fa, .ref aCo, .int (nI CM)])), (aS, .inl (cy 2, 89, .inl (encT (nB σ) (vB σ) (hB σ) (pB σ) (mB σ) (nD σ) (bD σ) (lD σ) (uD σ) (qD σ) (wD σ) (nE σ) (kE σ) (bE σ) (lE σ) (tT σ) (dT σ) (aT σ) (rT σ) (hT σ) (xT σ)))), (aOu, .inl (cy 1, 20, .inl (wrS (wrS fO 0 (dgs j ++ [58] ++ dgs (bx (vB σ j)) ++ [108] ++ dgs (bx (rdeg (hB σ j) (vB σ j))) ++ [67] ++ [45])) (((((((0 + (dgs j).length) + 1) + (dgs (bx (vB σ j))).length) + 1) + (dgs (bx (rdeg (hB σ j) (vB σ j)))).length) + 1) + 1) [42])))]) S9 (c_X8_says l G cy am aS aBf aAs aSv aPa aOu aTx aCo K (((((((0 + (dgs j).length) + 1) + (dgs (bx (vB σ j))).length) + 1) + (dgs (bx (rdeg (hB σ j) (vB σ j)))).length) + 1) + 1) LN PO CM iS 0 iw ea fa 42 (wrS fO 0 (dgs j ++ [58] ++ dgs (bx (vB σ j)) ++ [108] ++ dgs (bx (rdeg (hB σ j) (vB σ j))) ++ [67] ++ [45])) (by omega) rfl) (cwV 1 hts gX8_renderBath_X8_says rfl rfl rfl (by decide +kernel) ⟨Nat.le_of_ble_eq_true rfl, Nat.le_of_ble_eq_true rfl⟩) PB.blind (va_recv hK.1 hP (ci := 12) (q0 := 0) rfl rfl) (PB.at hK (m_Ppart hP [0, 2] rfl)) hP hD hS [0, 2] rfl rfl m_f2 rfl rfl hl.1 rfl (Nat.le_of_ble_eq_true rfl) ⟨Nat.zero_le _, Nat.zero_le _⟩ dX8_renderBath_103 (fun H locs hP hD hS => ?_)
          rw [wrS_app (ys := [42]) (xs := dgs j ++ [58] ++ dgs (bx (vB σ j)) ++ [108] ++ dgs (bx (rdeg (hB σ j) (vB σ j))) ++ [67] ++ [45]) (k := 0) (p := ((((((0 + (dgs j).length) + 1) + (dgs (bx (vB σ j))).length) + 1) + (dgs (bx (rdeg (hB σ j) (vB σ j)))).length) + 1) + 1) (by simp only [List.length_append, List.length_cons, List.length_nil] <;> omega)] at hP hD
          have hP : va_P G vwCl [(am, .inr (12, [.ref aS, .ref aBf, .ref aAs, .ref aSv, .int iS, .ref aPa, .int (nI K), .int 0, .ref aOu, .int (nI ((((((((0 + (dgs j).length) + 1) + (dgs (bx (vB σ j))).length) + 1) + (dgs (bx (rdeg (hB σ j) (vB σ j)))).length) + 1) + 1) + 1)), .ref aTx, .int (nI LN), .int (nI PO), .int iw, .int ea, .int fa, .ref aCo, .int (nI CM)])), (aS, .inl (cy 2, 89, .inl (encT (nB σ) (vB σ) (hB σ) (pB σ) (mB σ) (nD σ) (bD σ) (lD σ) (uD σ) (qD σ) (wD σ) (nE σ) (kE σ) (bE σ) (lE σ) (tT σ) (dT σ) (aT σ) (rT σ) (hT σ) (xT σ)))), (aOu, .inl (cy 1, 20, .inl (wrS fO 0 (dgs j ++ [58] ++ dgs (bx (vB σ j)) ++ [108] ++ dgs (bx (rdeg (hB σ j) (vB σ j))) ++ [67] ++ [45] ++ [42]))))] H := hP
          have hD : va_D (wA [(am, .inr (12, [.ref aS, .ref aBf, .ref aAs, .ref aSv, .int iS, .ref aPa, .int (nI K), .int th, .ref aOu, .int (nI OM), .ref aTx, .int (nI LN), .int (nI PO), .int iw, .int ea, .int fa, .ref aCo, .int (nI CM)])), (aS, .inl (cy 2, 89, .inl (encS σ))), (aOu, .inl (cy 1, 20, .inl fO))]) [(am, .inr (12, [.ref aS, .ref aBf, .ref aAs, .ref aSv, .int iS, .ref aPa, .int (nI K), .int 0, .ref aOu, .int (nI ((((((((0 + (dgs j).length) + 1) + (dgs (bx (vB σ j))).length) + 1) + (dgs (bx (rdeg (hB σ j) (vB σ j)))).length) + 1) + 1) + 1)), .ref aTx, .int (nI LN), .int (nI PO), .int iw, .int ea, .int fa, .ref aCo, .int (nI CM)])), (aS, .inl (cy 2, 89, .inl (encT (nB σ) (vB σ) (hB σ) (pB σ) (mB σ) (nD σ) (bD σ) (lD σ) (uD σ) (qD σ) (wD σ) (nE σ) (kE σ) (bE σ) (lE σ) (tT σ) (dT σ) (aT σ) (rT σ) (hT σ) (xT σ)))), (aOu, .inl (cy 1, 20, .inl (wrS fO 0 (dgs j ++ [58] ++ dgs (bx (vB σ j)) ++ [108] ++ dgs (bx (rdeg (hB σ j) (vB σ j))) ++ [67] ++ [45] ++ [42]))))] := hD
          refine lv_aload_n hx hb dX8_renderBath_106 rfl (lv_at hl 0 rfl) ?_
          refine va_get (D := G) (ci := 12) (v := .int (nI ((((((((0 + (dgs j).length) + 1) + (dgs (bx (vB σ j))).length) + 1) + (dgs (bx (rdeg (hB σ j) (vB σ j)))).length) + 1) + 1) + 1))) (C := RX8) (T := TX8) (N := 18) hx hb hts hi12 hown hK.1 hP 0 rfl rfl 9 (by decide) hf176 (fun _ h9 => h9) rfl dX8_renderBath_107 ?_
          have e9 : rnd σ j = dgs j ++ [58] ++ dgs (bx (vB σ j)) ++ [108] ++ dgs (bx (rdeg (hB σ j) (vB σ j))) ++ [67] ++ [45] ++ [42] := by simp [rnd, b_13, z_19, z_22]
          have e8 : ((((((((0 + (dgs j).length) + 1) + (dgs (bx (vB σ j))).length) + 1) + (dgs (bx (rdeg (hB σ j) (vB σ j)))).length) + 1) + 1) + 1) = (rnd σ j).length := by rw [e9]; simp only [List.length_append, List.length_cons, List.length_nil]; omega
          exact wc_iret hx hb hr hlocks (by rw [e8, ← e9] at hP; exact hP) hS (by rw [e8]) dX8_renderBath_110
  · exact absurd c_1 (by decide)

set_option maxRecDepth 100000 in
set_option maxHeartbeats 1000000 in
theorem c_X8_renderBath_no (l : Launch) (G : va_G) (cy : Nat → ClassId) (am aS aBf aAs aSv aPa aOu aTx aCo K OM LN PO CM : Nat) (iS th iw ea fa : Int32) (σ : St) (b : Int32) (ho : Ok σ) (hF : ¬ inI b (nI (nB σ)) = true) : WC l yX8_renderBath wsX8_renderBath { frames := 2, cells := 0, slots := 0, locals := 43 } G (PB G cy [(am, .inr (12, [.ref aS, .ref aBf, .ref aAs, .ref aSv, .int iS, .ref aPa, .int (nI K), .int th, .ref aOu, .int (nI OM), .ref aTx, .int (nI LN), .int (nI PO), .int iw, .int ea, .int fa, .ref aCo, .int (nI CM)])), (aS, .inl (cy 2, 89, .inl (encS σ)))]) [.ref am, .int b] [(am, .inr (12, [.ref aS, .ref aBf, .ref aAs, .ref aSv, .int iS, .ref aPa, .int (nI K), .int th, .ref aOu, .int (nI OM), .ref aTx, .int (nI LN), .int (nI PO), .int iw, .int ea, .int fa, .ref aCo, .int (nI CM)])), (aS, .inl (cy 2, 89, .inl (encS σ)))] [(am, .inr (12, [.ref aS, .ref aBf, .ref aAs, .ref aSv, .int iS, .ref aPa, .int (nI K), .int 1, .ref aOu, .int (nI OM), .ref aTx, .int (nI LN), .int (nI PO), .int iw, .int ea, .int fa, .ref aCo, .int (nI CM)])), (aS, .inl (cy 2, 89, .inl (encS σ)))] (some (.int 0)) := by
  refine WC.ofW (cc := cX8_renderBath) (maxL := 2) (ret := (some .int)) (by decide) rfl (Nat.le_of_ble_eq_true rfl) ?_
  intro p e s m below meth c S9 hr hlocks hPB hD hS ls hl
  obtain ⟨hx, hb, hml, hown, hts⟩ := id S9
  obtain ⟨hP, hK⟩ := hPB
  have hl : lv_has ls 2 [(0, .ref am), (1, .int b)] := hl
  have hP : va_P G vwCl [(am, .inr (12, [.ref aS, .ref aBf, .ref aAs, .ref aSv, .int iS, .ref aPa, .int (nI K), .int th, .ref aOu, .int (nI OM), .ref aTx, .int (nI LN), .int (nI PO), .int iw, .int ea, .int fa, .ref aCo, .int (nI CM)])), (aS, .inl (cy 2, 89, .inl (encT (nB σ) (vB σ) (hB σ) (pB σ) (mB σ) (nD σ) (bD σ) (lD σ) (uD σ) (qD σ) (wD σ) (nE σ) (kE σ) (bE σ) (lE σ) (tT σ) (dT σ) (aT σ) (rT σ) (hT σ) (xT σ))))] s.heap := hP
  have hD0 := hD
  have hD : va_D (wA [(am, .inr (12, [.ref aS, .ref aBf, .ref aAs, .ref aSv, .int iS, .ref aPa, .int (nI K), .int th, .ref aOu, .int (nI OM), .ref aTx, .int (nI LN), .int (nI PO), .int iw, .int ea, .int fa, .ref aCo, .int (nI CM)])), (aS, .inl (cy 2, 89, .inl (encS σ)))]) [(am, .inr (12, [.ref aS, .ref aBf, .ref aAs, .ref aSv, .int iS, .ref aPa, .int (nI K), .int th, .ref aOu, .int (nI OM), .ref aTx, .int (nI LN), .int (nI PO), .int iw, .int ea, .int fa, .ref aCo, .int (nI CM)])), (aS, .inl (cy 2, 89, .inl (encT (nB σ) (vB σ) (hB σ) (pB σ) (mB σ) (nD σ) (bD σ) (lD σ) (uD σ) (qD σ) (wD σ) (nE σ) (kE σ) (bE σ) (lE σ) (tT σ) (dT σ) (aT σ) (rT σ) (hT σ) (xT σ))))] := hD
  have hN0 := ho.1
  have hM0 := ho.2.1
  have hE0 := ho.2.2.1
  refine lv_aload_n hx hb dX8_renderBath_0 rfl (lv_at hl 0 rfl) ?_
  refine lv_aload_n hx hb dX8_renderBath_1 rfl (lv_at hl 0 rfl) ?_
  refine lv_iload_n hx hb dX8_renderBath_2 rfl (lv_at hl 1 rfl) ?_
  refine c_roVi S9 (c_X8_isBath l G cy am aS aBf aAs aSv aPa aOu aTx aCo K OM LN PO CM iS th iw ea fa (nB σ) (vB σ) (hB σ) (pB σ) (mB σ) (nD σ) (bD σ) (lD σ) (uD σ) (qD σ) (wD σ) (nE σ) (kE σ) (bE σ) (lE σ) (tT σ) (dT σ) (aT σ) (rT σ) (hT σ) (xT σ) b ho.1) (cwV 1 hts gX8_renderBath_X8_isBath rfl rfl rfl (by decide +kernel) ⟨Nat.le_of_ble_eq_true rfl, Nat.le_of_ble_eq_true rfl⟩) PB.blind (va_recv hK.1 hP (ci := 12) (q0 := 0) rfl rfl) (PB.at hK (m_Ppart hP [0, 1] rfl)) rfl hl.1 rfl (Nat.le_of_ble_eq_true rfl) ⟨Nat.zero_le _, Nat.zero_le _⟩ dX8_renderBath_3 ?_
  refine lv_t0 (if_neg hF) ?_
  refine c_wcVi (ws' := [(am, .inr (12, [.ref aS, .ref aBf, .ref aAs, .ref aSv, .int iS, .ref aPa, .int (nI K), .int 1, .ref aOu, .int (nI OM), .ref aTx, .int (nI LN), .int (nI PO), .int iw, .int ea, .int fa, .ref aCo, .int (nI CM)])), (aS, .inl (cy 2, 89, .inl (encT (nB σ) (vB σ) (hB σ) (pB σ) (mB σ) (nD σ) (bD σ) (lD σ) (uD σ) (qD σ) (wD σ) (nE σ) (kE σ) (bE σ) (lE σ) (tT σ) (dT σ) (aT σ) (rT σ) (hT σ) (xT σ))))]) S9 (c_X8_isThere_0 l G cy am aS aBf aAs aSv aPa aOu aTx aCo K OM LN PO CM iS th iw ea fa (nB σ) (vB σ) (hB σ) (pB σ) (mB σ) (nD σ) (bD σ) (lD σ) (uD σ) (qD σ) (wD σ) (nE σ) (kE σ) (bE σ) (lE σ) (tT σ) (dT σ) (aT σ) (rT σ) (hT σ) (xT σ)) (cwV 1 hts gX8_renderBath_X8_isThere rfl rfl rfl (by decide +kernel) ⟨Nat.le_of_ble_eq_true rfl, Nat.le_of_ble_eq_true rfl⟩) PB.blind (va_recv hK.1 hP (ci := 12) (q0 := 0) rfl rfl) (PB.at hK (m_Ppart hP [0, 1] rfl)) hP hD hS [0, 1] rfl rfl m_f2 rfl rfl hl.1 rfl (Nat.le_of_ble_eq_true rfl) ⟨Nat.zero_le _, Nat.zero_le _⟩ dX8_renderBath_6 (fun H locs hP hD hS => ?_)
  refine lv_if_ne (tgt := 14) hx hb dX8_renderBath_9 (by decide) (fun c_1 => ?_) (fun c_1 => ?_)
  · exact absurd c_1 (by decide)
  · refine lv_iconst (v := 0) hx hb dX8_renderBath_12 (by decide) ?_
    exact wc_iret hx hb hr hlocks hP hS rfl dX8_renderBath_13

set_option maxRecDepth 100000 in
set_option maxHeartbeats 1000000 in
theorem c_X8_outputAt_ok (l : Launch) (G : va_G) (cy : Nat → ClassId) (am aS aBf aAs aSv aPa aOu aTx aCo K OM LN PO CM : Nat) (iS th iw ea fa : Int32) (σ : St) (j : Nat) (fO : Nat → Int32) (hj : j < OM) (hO9 : OM ≤ 20) (hx9 : vp_nar .char (fO j) = fO j) : WC l yX8_outputAt wsX8_outputAt { frames := 1, cells := 0, slots := 0, locals := 22 } G (PB G cy [(am, .inr (12, [.ref aS, .ref aBf, .ref aAs, .ref aSv, .int iS, .ref aPa, .int (nI K), .int th, .ref aOu, .int (nI OM), .ref aTx, .int (nI LN), .int (nI PO), .int iw, .int ea, .int fa, .ref aCo, .int (nI CM)])), (aS, .inl (cy 2, 89, .inl (encS σ))), (aOu, .inl (cy 1, 20, .inl fO))]) [.ref am, .int (nI j)] [(am, .inr (12, [.ref aS, .ref aBf, .ref aAs, .ref aSv, .int iS, .ref aPa, .int (nI K), .int th, .ref aOu, .int (nI OM), .ref aTx, .int (nI LN), .int (nI PO), .int iw, .int ea, .int fa, .ref aCo, .int (nI CM)])), (aS, .inl (cy 2, 89, .inl (encS σ))), (aOu, .inl (cy 1, 20, .inl fO))] [(am, .inr (12, [.ref aS, .ref aBf, .ref aAs, .ref aSv, .int iS, .ref aPa, .int (nI K), .int 0, .ref aOu, .int (nI OM), .ref aTx, .int (nI LN), .int (nI PO), .int iw, .int ea, .int fa, .ref aCo, .int (nI CM)])), (aS, .inl (cy 2, 89, .inl (encS σ))), (aOu, .inl (cy 1, 20, .inl fO))] (some (.int (fO j))) := by
  refine WC.ofW (cc := cX8_outputAt) (maxL := 2) (ret := (some .char)) (by decide) rfl (Nat.le_of_ble_eq_true rfl) ?_
  intro p e s m below meth c S9 hr hlocks hPB hD hS ls hl
  obtain ⟨hx, hb, hml, hown, hts⟩ := id S9
  obtain ⟨hP, hK⟩ := hPB
  have hl : lv_has ls 2 [(0, .ref am), (1, .int (nI j))] := hl
  have hP : va_P G vwCl [(am, .inr (12, [.ref aS, .ref aBf, .ref aAs, .ref aSv, .int iS, .ref aPa, .int (nI K), .int th, .ref aOu, .int (nI OM), .ref aTx, .int (nI LN), .int (nI PO), .int iw, .int ea, .int fa, .ref aCo, .int (nI CM)])), (aS, .inl (cy 2, 89, .inl (encT (nB σ) (vB σ) (hB σ) (pB σ) (mB σ) (nD σ) (bD σ) (lD σ) (uD σ) (qD σ) (wD σ) (nE σ) (kE σ) (bE σ) (lE σ) (tT σ) (dT σ) (aT σ) (rT σ) (hT σ) (xT σ)))), (aOu, .inl (cy 1, 20, .inl fO))] s.heap := hP
  have hD0 := hD
  have hD : va_D (wA [(am, .inr (12, [.ref aS, .ref aBf, .ref aAs, .ref aSv, .int iS, .ref aPa, .int (nI K), .int th, .ref aOu, .int (nI OM), .ref aTx, .int (nI LN), .int (nI PO), .int iw, .int ea, .int fa, .ref aCo, .int (nI CM)])), (aS, .inl (cy 2, 89, .inl (encS σ))), (aOu, .inl (cy 1, 20, .inl fO))]) [(am, .inr (12, [.ref aS, .ref aBf, .ref aAs, .ref aSv, .int iS, .ref aPa, .int (nI K), .int th, .ref aOu, .int (nI OM), .ref aTx, .int (nI LN), .int (nI PO), .int iw, .int ea, .int fa, .ref aCo, .int (nI CM)])), (aS, .inl (cy 2, 89, .inl (encT (nB σ) (vB σ) (hB σ) (pB σ) (mB σ) (nD σ) (bD σ) (lD σ) (uD σ) (qD σ) (wD σ) (nE σ) (kE σ) (bE σ) (lE σ) (tT σ) (dT σ) (aT σ) (rT σ) (hT σ) (xT σ)))), (aOu, .inl (cy 1, 20, .inl fO))] := hD
  have hi12 : ∀ w ∈ wsX80, w ∈ wsX8_outputAt := by decide +kernel
  have hf25 := hts (.fieldLink RX8 25 "BathLeagueModel" "output" "[C") (by decide +kernel)
  have hf176 := hts (.fieldLink RX8 176 "BathLeagueModel" "outputMany" "I") (by decide +kernel)
  have hF : inR (nI j) 0 ((nI OM) - 1) = true := (inR_inI _ (by omega)).trans (m_inI hj (by omega))
  refine lv_aload_n hx hb dX8_outputAt_0 rfl (lv_at hl 0 rfl) ?_
  refine lv_iload_n hx hb dX8_outputAt_1 rfl (lv_at hl 1 rfl) ?_
  refine lv_iconst (v := 0) hx hb dX8_outputAt_2 (by decide) ?_
  refine lv_aload_n hx hb dX8_outputAt_3 rfl (lv_at hl 0 rfl) ?_
  refine va_get (D := G) (ci := 12) (v := .int (nI OM)) (C := RX8) (T := TX8) (N := 18) hx hb hts hi12 hown hK.1 hP 0 rfl rfl 9 (by decide) hf176 (fun _ h9 => h9) rfl dX8_outputAt_4 ?_
  refine lv_iconst (v := 1) hx hb dX8_outputAt_7 (by decide) ?_
  refine lv_isub hx hb dX8_outputAt_8 ?_
  refine c_roSi S9 (c_X8_in l G cy (nI j) 0 ((nI OM) - 1)) (va_cwS 3 hts gX8_outputAt_X8_in rfl rfl rfl (by decide +kernel) ⟨Nat.le_of_ble_eq_true rfl, Nat.le_of_ble_eq_true rfl⟩) PB.blind (PB.at hK (m_Ppart hP [] rfl)) rfl hl.1 rfl (Nat.le_of_ble_eq_true rfl) ⟨Nat.zero_le _, Nat.zero_le _⟩ dX8_outputAt_9 ?_
  refine lv_t0 (if_pos hF) ?_
  refine c_wcVi (ws' := [(am, .inr (12, [.ref aS, .ref aBf, .ref aAs, .ref aSv, .int iS, .ref aPa, .int (nI K), .int 0, .ref aOu, .int (nI OM), .ref aTx, .int (nI LN), .int (nI PO), .int iw, .int ea, .int fa, .ref aCo, .int (nI CM)])), (aS, .inl (cy 2, 89, .inl (encT (nB σ) (vB σ) (hB σ) (pB σ) (mB σ) (nD σ) (bD σ) (lD σ) (uD σ) (qD σ) (wD σ) (nE σ) (kE σ) (bE σ) (lE σ) (tT σ) (dT σ) (aT σ) (rT σ) (hT σ) (xT σ)))), (aOu, .inl (cy 1, 20, .inl fO))]) S9 (c_X8_isThere_1 l G cy am aS aBf aAs aSv aPa aOu aTx aCo K OM LN PO CM iS th iw ea fa (nB σ) (vB σ) (hB σ) (pB σ) (mB σ) (nD σ) (bD σ) (lD σ) (uD σ) (qD σ) (wD σ) (nE σ) (kE σ) (bE σ) (lE σ) (tT σ) (dT σ) (aT σ) (rT σ) (hT σ) (xT σ)) (cwV 1 hts gX8_outputAt_X8_isThere rfl rfl rfl (by decide +kernel) ⟨Nat.le_of_ble_eq_true rfl, Nat.le_of_ble_eq_true rfl⟩) PB.blind (va_recv hK.1 hP (ci := 12) (q0 := 0) rfl rfl) (PB.at hK (m_Ppart hP [0, 1] rfl)) hP hD hS [0, 1] rfl rfl m_f2 rfl rfl hl.1 rfl (Nat.le_of_ble_eq_true rfl) ⟨Nat.zero_le _, Nat.zero_le _⟩ dX8_outputAt_12 (fun H locs hP hD hS => ?_)
  refine lv_if_eq (tgt := 27) hx hb dX8_outputAt_15 (by decide) (fun c_1 => ?_) (fun c_1 => ?_)
  · exact absurd c_1 (by decide)
  · refine lv_aload_n hx hb dX8_outputAt_18 rfl (lv_at hl 0 rfl) ?_
    refine va_get (D := G) (ci := 12) (v := .ref aOu) (C := RX8) (T := TX8) (N := 18) hx hb hts hi12 hown hK.1 hP 0 rfl rfl 8 (by decide) hf25 (fun _ h9 => h9) rfl dX8_outputAt_19 ?_
    refine lv_iload_n hx hb dX8_outputAt_22 rfl (lv_at hl 1 rfl) ?_
    refine m_cald hx hb hK hP 2 (k := j) rfl rfl (by omega) (Nat.le_of_ble_eq_true rfl) dX8_outputAt_23 ?_
    refine lv_goto (tgt := 29) hx hb dX8_outputAt_24 (by decide) ?_
    exact wc_zret hx hb hr hlocks hP hS (congrArg Value.int hx9) rfl dX8_outputAt_29

set_option maxRecDepth 100000 in
set_option maxHeartbeats 1000000 in
theorem c_X8_outputAt_no (l : Launch) (G : va_G) (cy : Nat → ClassId) (am aS aBf aAs aSv aPa aOu aTx aCo K OM LN PO CM : Nat) (iS th iw ea fa : Int32) (σ : St) (b : Int32) (hF : ¬ inR b 0 ((nI OM) - 1) = true) : WC l yX8_outputAt wsX8_outputAt { frames := 1, cells := 0, slots := 0, locals := 22 } G (PB G cy [(am, .inr (12, [.ref aS, .ref aBf, .ref aAs, .ref aSv, .int iS, .ref aPa, .int (nI K), .int th, .ref aOu, .int (nI OM), .ref aTx, .int (nI LN), .int (nI PO), .int iw, .int ea, .int fa, .ref aCo, .int (nI CM)])), (aS, .inl (cy 2, 89, .inl (encS σ)))]) [.ref am, .int b] [(am, .inr (12, [.ref aS, .ref aBf, .ref aAs, .ref aSv, .int iS, .ref aPa, .int (nI K), .int th, .ref aOu, .int (nI OM), .ref aTx, .int (nI LN), .int (nI PO), .int iw, .int ea, .int fa, .ref aCo, .int (nI CM)])), (aS, .inl (cy 2, 89, .inl (encS σ)))] [(am, .inr (12, [.ref aS, .ref aBf, .ref aAs, .ref aSv, .int iS, .ref aPa, .int (nI K), .int 1, .ref aOu, .int (nI OM), .ref aTx, .int (nI LN), .int (nI PO), .int iw, .int ea, .int fa, .ref aCo, .int (nI CM)])), (aS, .inl (cy 2, 89, .inl (encS σ)))] (some (.int 32)) := by
  refine WC.ofW (cc := cX8_outputAt) (maxL := 2) (ret := (some .char)) (by decide) rfl (Nat.le_of_ble_eq_true rfl) ?_
  intro p e s m below meth c S9 hr hlocks hPB hD hS ls hl
  obtain ⟨hx, hb, hml, hown, hts⟩ := id S9
  obtain ⟨hP, hK⟩ := hPB
  have hl : lv_has ls 2 [(0, .ref am), (1, .int b)] := hl
  have hP : va_P G vwCl [(am, .inr (12, [.ref aS, .ref aBf, .ref aAs, .ref aSv, .int iS, .ref aPa, .int (nI K), .int th, .ref aOu, .int (nI OM), .ref aTx, .int (nI LN), .int (nI PO), .int iw, .int ea, .int fa, .ref aCo, .int (nI CM)])), (aS, .inl (cy 2, 89, .inl (encT (nB σ) (vB σ) (hB σ) (pB σ) (mB σ) (nD σ) (bD σ) (lD σ) (uD σ) (qD σ) (wD σ) (nE σ) (kE σ) (bE σ) (lE σ) (tT σ) (dT σ) (aT σ) (rT σ) (hT σ) (xT σ))))] s.heap := hP
  have hD0 := hD
  have hD : va_D (wA [(am, .inr (12, [.ref aS, .ref aBf, .ref aAs, .ref aSv, .int iS, .ref aPa, .int (nI K), .int th, .ref aOu, .int (nI OM), .ref aTx, .int (nI LN), .int (nI PO), .int iw, .int ea, .int fa, .ref aCo, .int (nI CM)])), (aS, .inl (cy 2, 89, .inl (encS σ)))]) [(am, .inr (12, [.ref aS, .ref aBf, .ref aAs, .ref aSv, .int iS, .ref aPa, .int (nI K), .int th, .ref aOu, .int (nI OM), .ref aTx, .int (nI LN), .int (nI PO), .int iw, .int ea, .int fa, .ref aCo, .int (nI CM)])), (aS, .inl (cy 2, 89, .inl (encT (nB σ) (vB σ) (hB σ) (pB σ) (mB σ) (nD σ) (bD σ) (lD σ) (uD σ) (qD σ) (wD σ) (nE σ) (kE σ) (bE σ) (lE σ) (tT σ) (dT σ) (aT σ) (rT σ) (hT σ) (xT σ))))] := hD
  have hi12 : ∀ w ∈ wsX80, w ∈ wsX8_outputAt := by decide +kernel
  have hf176 := hts (.fieldLink RX8 176 "BathLeagueModel" "outputMany" "I") (by decide +kernel)
  refine lv_aload_n hx hb dX8_outputAt_0 rfl (lv_at hl 0 rfl) ?_
  refine lv_iload_n hx hb dX8_outputAt_1 rfl (lv_at hl 1 rfl) ?_
  refine lv_iconst (v := 0) hx hb dX8_outputAt_2 (by decide) ?_
  refine lv_aload_n hx hb dX8_outputAt_3 rfl (lv_at hl 0 rfl) ?_
  refine va_get (D := G) (ci := 12) (v := .int (nI OM)) (C := RX8) (T := TX8) (N := 18) hx hb hts hi12 hown hK.1 hP 0 rfl rfl 9 (by decide) hf176 (fun _ h9 => h9) rfl dX8_outputAt_4 ?_
  refine lv_iconst (v := 1) hx hb dX8_outputAt_7 (by decide) ?_
  refine lv_isub hx hb dX8_outputAt_8 ?_
  refine c_roSi S9 (c_X8_in l G cy b 0 ((nI OM) - 1)) (va_cwS 3 hts gX8_outputAt_X8_in rfl rfl rfl (by decide +kernel) ⟨Nat.le_of_ble_eq_true rfl, Nat.le_of_ble_eq_true rfl⟩) PB.blind (PB.at hK (m_Ppart hP [] rfl)) rfl hl.1 rfl (Nat.le_of_ble_eq_true rfl) ⟨Nat.zero_le _, Nat.zero_le _⟩ dX8_outputAt_9 ?_
  refine lv_t0 (if_neg hF) ?_
  refine c_wcVi (ws' := [(am, .inr (12, [.ref aS, .ref aBf, .ref aAs, .ref aSv, .int iS, .ref aPa, .int (nI K), .int 1, .ref aOu, .int (nI OM), .ref aTx, .int (nI LN), .int (nI PO), .int iw, .int ea, .int fa, .ref aCo, .int (nI CM)])), (aS, .inl (cy 2, 89, .inl (encT (nB σ) (vB σ) (hB σ) (pB σ) (mB σ) (nD σ) (bD σ) (lD σ) (uD σ) (qD σ) (wD σ) (nE σ) (kE σ) (bE σ) (lE σ) (tT σ) (dT σ) (aT σ) (rT σ) (hT σ) (xT σ))))]) S9 (c_X8_isThere_0 l G cy am aS aBf aAs aSv aPa aOu aTx aCo K OM LN PO CM iS th iw ea fa (nB σ) (vB σ) (hB σ) (pB σ) (mB σ) (nD σ) (bD σ) (lD σ) (uD σ) (qD σ) (wD σ) (nE σ) (kE σ) (bE σ) (lE σ) (tT σ) (dT σ) (aT σ) (rT σ) (hT σ) (xT σ)) (cwV 1 hts gX8_outputAt_X8_isThere rfl rfl rfl (by decide +kernel) ⟨Nat.le_of_ble_eq_true rfl, Nat.le_of_ble_eq_true rfl⟩) PB.blind (va_recv hK.1 hP (ci := 12) (q0 := 0) rfl rfl) (PB.at hK (m_Ppart hP [0, 1] rfl)) hP hD hS [0, 1] rfl rfl m_f2 rfl rfl hl.1 rfl (Nat.le_of_ble_eq_true rfl) ⟨Nat.zero_le _, Nat.zero_le _⟩ dX8_outputAt_12 (fun H locs hP hD hS => ?_)
  refine lv_if_eq (tgt := 27) hx hb dX8_outputAt_15 (by decide) (fun c_1 => ?_) (fun c_1 => ?_)
  · refine lv_bipush (v := 32) hx hb dX8_outputAt_27 (by decide) ?_
    exact wc_zret hx hb hr hlocks hP hS (by first | rfl | (split <;> rfl)) rfl dX8_outputAt_29
  · exact absurd c_1 (by decide)
