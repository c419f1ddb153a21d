set_option maxRecDepth 100000 in
set_option maxHeartbeats 1000000 in
theorem c_X8_isAhead (l : Launch) (G : va_G) (cy : Nat → ClassId) (am aS aBf aAs aSv aPa aOu aTx aCo K OM LN PO CM : Nat) (iS th iw ea fa : Int32) (N : Nat) (v h pl me : Nat → Int32) (M : Nat) (db dl du dq dw : Nat → Int32) (E : Nat) (ek eb el : Nat → Int32) (t1 t2 t3 t4 t5 t6 : Int32) (a b : Nat) (ha9 : a < 5) (hb9 : b < 5) (hbd : Bd v h) : RO l yX8_isAhead wsX8_isAhead { frames := 2, cells := 0, slots := 0, locals := 44 } (PB G cy [(am, .inr (12, [.ref aS, .ref aBf, .ref aAs, .ref aSv, .int iS, .ref aPa, .int (nI K), .int th, .ref aOu, .int (nI OM), .ref aTx, .int (nI LN), .int (nI PO), .int iw, .int ea, .int fa, .ref aCo, .int (nI CM)])), (aS, .inl (cy 2, 89, .inl (encT N v h pl me M db dl du dq dw E ek eb el t1 t2 t3 t4 t5 t6)))]) [.ref am, .int (nI a), .int (nI b)] (some (.int (if rkB v h a b = true then 1 else 0))) := by
  refine RO.ofW (cc := cX8_isAhead) (maxL := 4) (ret := (some .boolean)) (by decide) rfl (Nat.le_of_ble_eq_true rfl) ?_
  intro p e s m below meth c S9 hr hlocks hPB ls hl
  obtain ⟨hx, hb, hml, hown, hts⟩ := id S9
  obtain ⟨hP, hK⟩ := hPB
  have hl : lv_has ls 4 [(0, .ref am), (1, .int (nI a)), (2, .int (nI b))] := hl
  refine lv_aload_n hx hb dX8_isAhead_0 rfl (lv_at hl 0 rfl) ?_
  refine lv_iload_n hx hb dX8_isAhead_1 rfl (lv_at hl 1 rfl) ?_
  refine c_roVi S9 (c_X8_isWet l G cy am aS aBf aAs aSv aPa aOu aTx aCo K OM LN PO CM iS th iw ea fa N v h pl me M db dl du dq dw E ek eb el t1 t2 t3 t4 t5 t6 a (by omega)) (cwV 1 hts gX8_isAhead_X8_isWet rfl rfl rfl (by decide +kernel) ⟨Nat.le_of_ble_eq_true rfl, Nat.le_of_ble_eq_true rfl⟩) PB.blind (va_recv hK.1 hP (ci := 12) (q0 := 0) rfl rfl) (PB.at hK (m_Ppart hP [0, 1] rfl)) rfl hl.1 rfl (Nat.le_of_ble_eq_true rfl) ⟨Nat.zero_le _, Nat.zero_le _⟩ dX8_isAhead_2 ?_
  by_cases b_1 : wet v a = true
  · refine lv_t0 (if_pos b_1) ?_
    refine lv_aload_n hx hb dX8_isAhead_5 rfl (lv_at hl 0 rfl) ?_
    refine lv_iload_n hx hb dX8_isAhead_6 rfl (lv_at hl 2 rfl) ?_
    refine c_roVi S9 (c_X8_isWet l G cy am aS aBf aAs aSv aPa aOu aTx aCo K OM LN PO CM iS th iw ea fa N v h pl me M db dl du dq dw E ek eb el t1 t2 t3 t4 t5 t6 b (by omega)) (cwV 1 hts gX8_isAhead_X8_isWet rfl rfl rfl (by decide +kernel) ⟨Nat.le_of_ble_eq_true rfl, Nat.le_of_ble_eq_true rfl⟩) PB.blind (va_recv hK.1 hP (ci := 12) (q0 := 0) rfl rfl) (PB.at hK (m_Ppart hP [0, 1] rfl)) rfl hl.1 rfl (Nat.le_of_ble_eq_true rfl) ⟨Nat.zero_le _, Nat.zero_le _⟩ dX8_isAhead_7 ?_
    by_cases b_2 : wet v b = true
    · refine lv_t0 (if_pos b_2) ?_
      refine lv_icmp_eq (tgt := 19) hx hb dX8_isAhead_10 (by decide) (fun c_3 => ?_) (fun c_3 => ?_)
      · refine lv_aload_n hx hb dX8_isAhead_19 rfl (lv_at hl 0 rfl) ?_
        refine lv_iload_n hx hb dX8_isAhead_20 rfl (lv_at hl 1 rfl) ?_
        refine c_roVi S9 (c_X8_isWet l G cy am aS aBf aAs aSv aPa aOu aTx aCo K OM LN PO CM iS th iw ea fa N v h pl me M db dl du dq dw E ek eb el t1 t2 t3 t4 t5 t6 a (by omega)) (cwV 1 hts gX8_isAhead_X8_isWet rfl rfl rfl (by decide +kernel) ⟨Nat.le_of_ble_eq_true rfl, Nat.le_of_ble_eq_true rfl⟩) PB.blind (va_recv hK.1 hP (ci := 12) (q0 := 0) rfl rfl) (PB.at hK (m_Ppart hP [0, 1] rfl)) rfl hl.1 rfl (Nat.le_of_ble_eq_true rfl) ⟨Nat.zero_le _, Nat.zero_le _⟩ dX8_isAhead_21 ?_
        refine lv_t0 (if_pos b_1) ?_
        refine lv_if_eq (tgt := 36) hx hb dX8_isAhead_24 (by decide) (fun c_4 => ?_) (fun c_4 => ?_)
        · exact absurd c_4 (by decide)
        · refine lv_aload_n hx hb dX8_isAhead_27 rfl (lv_at hl 0 rfl) ?_
          refine lv_iload_n hx hb dX8_isAhead_28 rfl (lv_at hl 1 rfl) ?_
          refine lv_iload_n hx hb dX8_isAhead_29 rfl (lv_at hl 2 rfl) ?_
          refine c_roVi S9 (c_X8_warmer l G cy am aS aBf aAs aSv aPa aOu aTx aCo K OM LN PO CM iS th iw ea fa N v h pl me M db dl du dq dw E ek eb el t1 t2 t3 t4 t5 t6 a b (by omega) (by omega)) (cwV 2 hts gX8_isAhead_X8_warmer rfl rfl rfl (by decide +kernel) ⟨Nat.le_of_ble_eq_true rfl, Nat.le_of_ble_eq_true rfl⟩) PB.blind (va_recv hK.1 hP (ci := 12) (q0 := 0) rfl rfl) (PB.at hK (m_Ppart hP [0, 1] rfl)) rfl hl.1 rfl (Nat.le_of_ble_eq_true rfl) ⟨Nat.zero_le _, Nat.zero_le _⟩ dX8_isAhead_30 ?_
          refine lv_goto (tgt := 37) hx hb dX8_isAhead_33 (by decide) ?_
          refine lv_istore_n (lv' := [(3, .int (h a * v b - h b * v a)), (0, .ref am), (1, .int (nI a)), (2, .int (nI b))]) hx hb dX8_isAhead_37 rfl hl (by decide) rfl (fun ls hl => ?_)
          refine lv_iload_n hx hb dX8_isAhead_38 rfl (lv_at hl 0 rfl) ?_
          refine lv_if_gt (tgt := 51) hx hb dX8_isAhead_39 (by decide) (fun c_5 => ?_) (fun c_5 => ?_)
          · have c_5' : ¬ (h a * v b - h b * v a) ≤ 0 := Int32.not_le.mpr c_5
            refine lv_iconst (v := 1) hx hb dX8_isAhead_51 (by decide) ?_
            refine lv_goto (tgt := 56) hx hb dX8_isAhead_52 (by decide) ?_
            exact ro_zret hx hb hr hlocks (by first | rfl | (split <;> rfl)) (by rw [rkB_I hbd ha9 hb9]; simp [b_1, b_2, c_5', c_5]) dX8_isAhead_56
          · have c_5' : (h a * v b - h b * v a) ≤ 0 := Int32.not_lt.mp c_5
            refine lv_iload_n hx hb dX8_isAhead_42 rfl (lv_at hl 0 rfl) ?_
            refine lv_if_ne (tgt := 55) hx hb dX8_isAhead_43 (by decide) (fun c_6 => ?_) (fun c_6 => ?_)
            · refine lv_iconst (v := 0) hx hb dX8_isAhead_55 (by decide) ?_
              exact ro_zret hx hb hr hlocks (by first | rfl | (split <;> rfl)) (by rw [rkB_I hbd ha9 hb9]; simp [b_1, b_2, c_5', c_5, c_6]) dX8_isAhead_56
            · refine lv_iload_n hx hb dX8_isAhead_46 rfl (lv_at hl 2 rfl) ?_
              refine lv_iload_n hx hb dX8_isAhead_47 rfl (lv_at hl 3 rfl) ?_
              refine lv_icmp_ge (tgt := 55) hx hb dX8_isAhead_48 (by decide) (fun c_7 => ?_) (fun c_7 => ?_)
              · have k_8 : b ≤ a := (m_leN (a := b) (b := a) rfl rfl (by omega) (by omega)).mp c_7
                have k_8' : ¬ (a < b) := by omega
                refine lv_iconst (v := 0) hx hb dX8_isAhead_55 (by decide) ?_
                exact ro_zret hx hb hr hlocks (by first | rfl | (split <;> rfl)) (by rw [rkB_I hbd ha9 hb9]; simp [b_1, b_2, c_5', c_5, c_6, c_7, k_8', k_8]) dX8_isAhead_56
              · have k_9 : ¬ (b ≤ a) := fun z => c_7 ((m_leN (a := b) (b := a) rfl rfl (by omega) (by omega)).mpr z)
                have k_9' : a < b := by omega
                refine lv_iconst (v := 1) hx hb dX8_isAhead_51 (by decide) ?_
                refine lv_goto (tgt := 56) hx hb dX8_isAhead_52 (by decide) ?_
                exact ro_zret hx hb hr hlocks (by first | rfl | (split <;> rfl)) (by rw [rkB_I hbd ha9 hb9]; simp [b_1, b_2, c_5', c_5, c_6, c_7, k_9', k_9]) dX8_isAhead_56
      · exact absurd c_3 (by decide)
    · refine lv_t0 (if_neg b_2) ?_
      refine lv_icmp_eq (tgt := 19) hx hb dX8_isAhead_10 (by decide) (fun c_10 => ?_) (fun c_10 => ?_)
      · exact absurd c_10 (by decide)
      · refine lv_aload_n hx hb dX8_isAhead_13 rfl (lv_at hl 0 rfl) ?_
        refine lv_iload_n hx hb dX8_isAhead_14 rfl (lv_at hl 1 rfl) ?_
        refine c_roVi S9 (c_X8_isWet l G cy am aS aBf aAs aSv aPa aOu aTx aCo K OM LN PO CM iS th iw ea fa N v h pl me M db dl du dq dw E ek eb el t1 t2 t3 t4 t5 t6 a (by omega)) (cwV 1 hts gX8_isAhead_X8_isWet rfl rfl rfl (by decide +kernel) ⟨Nat.le_of_ble_eq_true rfl, Nat.le_of_ble_eq_true rfl⟩) PB.blind (va_recv hK.1 hP (ci := 12) (q0 := 0) rfl rfl) (PB.at hK (m_Ppart hP [0, 1] rfl)) rfl hl.1 rfl (Nat.le_of_ble_eq_true rfl) ⟨Nat.zero_le _, Nat.zero_le _⟩ dX8_isAhead_15 ?_
        refine lv_t0 (if_pos b_1) ?_
        exact ro_zret hx hb hr hlocks (by first | rfl | (split <;> rfl)) (by rw [rkB_I hbd ha9 hb9]; simp [b_1, b_2]) dX8_isAhead_18
  · refine lv_t0 (if_neg b_1) ?_
    refine lv_aload_n hx hb dX8_isAhead_5 rfl (lv_at hl 0 rfl) ?_
    refine lv_iload_n hx hb dX8_isAhead_6 rfl (lv_at hl 2 rfl) ?_
    refine c_roVi S9 (c_X8_isWet l G cy am aS aBf aAs aSv aPa aOu aTx aCo K OM LN PO CM iS th iw ea fa N v h pl me M db dl du dq dw E ek eb el t1 t2 t3 t4 t5 t6 b (by omega)) (cwV 1 hts gX8_isAhead_X8_isWet rfl rfl rfl (by decide +kernel) ⟨Nat.le_of_ble_eq_true rfl, Nat.le_of_ble_eq_true rfl⟩) PB.blind (va_recv hK.1 hP (ci := 12) (q0 := 0) rfl rfl) (PB.at hK (m_Ppart hP [0, 1] rfl)) rfl hl.1 rfl (Nat.le_of_ble_eq_true rfl) ⟨Nat.zero_le _, Nat.zero_le _⟩ dX8_isAhead_7 ?_
    by_cases b_11 : wet v b = true
    · refine lv_t0 (if_pos b_11) ?_
      refine lv_icmp_eq (tgt := 19) hx hb dX8_isAhead_10 (by decide) (fun c_12 => ?_) (fun c_12 => ?_)
      · exact absurd c_12 (by decide)
      · refine lv_aload_n hx hb dX8_isAhead_13 rfl (lv_at hl 0 rfl) ?_
        refine lv_iload_n hx hb dX8_isAhead_14 rfl (lv_at hl 1 rfl) ?_
        refine c_roVi S9 (c_X8_isWet l G cy am aS aBf aAs aSv aPa aOu aTx aCo K OM LN PO CM iS th iw ea fa N v h pl me M db dl du dq dw E ek eb el t1 t2 t3 t4 t5 t6 a (by omega)) (cwV 1 hts gX8_isAhead_X8_isWet rfl rfl rfl (by decide +kernel) ⟨Nat.le_of_ble_eq_true rfl, Nat.le_of_ble_eq_true rfl⟩) PB.blind (va_recv hK.1 hP (ci := 12) (q0 := 0) rfl rfl) (PB.at hK (m_Ppart hP [0, 1] rfl)) rfl hl.1 rfl (Nat.le_of_ble_eq_true rfl) ⟨Nat.zero_le _, Nat.zero_le _⟩ dX8_isAhead_15 ?_
        refine lv_t0 (if_neg b_1) ?_
        exact ro_zret hx hb hr hlocks (by first | rfl | (split <;> rfl)) (by rw [rkB_I hbd ha9 hb9]; simp [b_1, b_11]) dX8_isAhead_18
    · refine lv_t0 (if_neg b_11) ?_
      refine lv_icmp_eq (tgt := 19) hx hb dX8_isAhead_10 (by decide) (fun c_13 => ?_) (fun c_13 => ?_)
      · refine lv_aload_n hx hb dX8_isAhead_19 rfl (lv_at hl 0 rfl) ?_
        refine lv_iload_n hx hb dX8_isAhead_20 rfl (lv_at hl 1 rfl) ?_
        refine c_roVi S9 (c_X8_isWet l G cy am aS aBf aAs aSv aPa aOu aTx aCo K OM LN PO CM iS th iw ea fa N v h pl me M db dl du dq dw E ek eb el t1 t2 t3 t4 t5 t6 a (by omega)) (cwV 1 hts gX8_isAhead_X8_isWet rfl rfl rfl (by decide +kernel) ⟨Nat.le_of_ble_eq_true rfl, Nat.le_of_ble_eq_true rfl⟩) PB.blind (va_recv hK.1 hP (ci := 12) (q0 := 0) rfl rfl) (PB.at hK (m_Ppart hP [0, 1] rfl)) rfl hl.1 rfl (Nat.le_of_ble_eq_true rfl) ⟨Nat.zero_le _, Nat.zero_le _⟩ dX8_isAhead_21 ?_
        refine lv_t0 (if_neg b_1) ?_
        refine lv_if_eq (tgt := 36) hx hb dX8_isAhead_24 (by decide) (fun c_14 => ?_) (fun c_14 => ?_)
        · refine lv_iconst (v := 0) hx hb dX8_isAhead_36 (by decide) ?_
          refine lv_istore_n (lv' := [(3, .int 0), (0, .ref am), (1, .int (nI a)), (2, .int (nI b))]) hx hb dX8_isAhead_37 rfl hl (by decide) rfl (fun ls hl => ?_)
          refine lv_iload_n hx hb dX8_isAhead_38 rfl (lv_at hl 0 rfl) ?_
          refine lv_if_gt (tgt := 51) hx hb dX8_isAhead_39 (by decide) (fun c_15 => ?_) (fun c_15 => ?_)
          · exact absurd c_15 (by decide)
          · refine lv_iload_n hx hb dX8_isAhead_42 rfl (lv_at hl 0 rfl) ?_
            refine lv_if_ne (tgt := 55) hx hb dX8_isAhead_43 (by decide) (fun c_16 => ?_) (fun c_16 => ?_)
            · exact absurd c_16 (by decide)
            · refine lv_iload_n hx hb dX8_isAhead_46 rfl (lv_at hl 2 rfl) ?_
              refine lv_iload_n hx hb dX8_isAhead_47 rfl (lv_at hl 3 rfl) ?_
              refine lv_icmp_ge (tgt := 55) hx hb dX8_isAhead_48 (by decide) (fun c_17 => ?_) (fun c_17 => ?_)
              · have k_18 : b ≤ a := (m_leN (a := b) (b := a) rfl rfl (by omega) (by omega)).mp c_17
                have k_18' : ¬ (a < b) := by omega
                refine lv_iconst (v := 0) hx hb dX8_isAhead_55 (by decide) ?_
                exact ro_zret hx hb hr hlocks (by first | rfl | (split <;> rfl)) (by rw [rkB_I hbd ha9 hb9]; simp [b_1, b_11, c_17, k_18', k_18]) dX8_isAhead_56
              · have k_19 : ¬ (b ≤ a) := fun z => c_17 ((m_leN (a := b) (b := a) rfl rfl (by omega) (by omega)).mpr z)
                have k_19' : a < b := by omega
                refine lv_iconst (v := 1) hx hb dX8_isAhead_51 (by decide) ?_
                refine lv_goto (tgt := 56) hx hb dX8_isAhead_52 (by decide) ?_
                exact ro_zret hx hb hr hlocks (by first | rfl | (split <;> rfl)) (by rw [rkB_I hbd ha9 hb9]; simp [b_1, b_11, c_17, k_19', k_19]) dX8_isAhead_56
        · exact absurd c_14 (by decide)
      · exact absurd c_13 (by decide)

set_option maxRecDepth 100000 in
set_option maxHeartbeats 1000000 in
theorem c_X8_bathByTemperature_ok (l : Launch) (G : va_G) (cy : Nat → ClassId) (am aS aBf aAs aSv aPa aOu aTx aCo K OM LN PO CM : Nat) (iS th iw ea fa : Int32) (σ : St) (i : Int32) (ho : Ok σ) (hF : inI i (nI (nB σ)) = true) (hbd : Bd (vB σ) (hB σ)) : WC l yX8_bathByTemperature wsX8_bathByTemperature { frames := 3, cells := 0, slots := 0, locals := 67 } G (PB G cy [(am, .inr (12, [.ref aS, .ref aBf, .ref aAs, .ref aSv, .int iS, .ref aPa, .int (nI K), .int th, .ref aOu, .int (nI OM), .ref aTx, .int (nI LN), .int (nI PO), .int iw, .int ea, .int fa, .ref aCo, .int (nI CM)])), (aS, .inl (cy 2, 89, .inl (encS σ)))]) [.ref am, .int i] [(am, .inr (12, [.ref aS, .ref aBf, .ref aAs, .ref aSv, .int iS, .ref aPa, .int (nI K), .int th, .ref aOu, .int (nI OM), .ref aTx, .int (nI LN), .int (nI PO), .int iw, .int ea, .int fa, .ref aCo, .int (nI CM)])), (aS, .inl (cy 2, 89, .inl (encS σ)))] [(am, .inr (12, [.ref aS, .ref aBf, .ref aAs, .ref aSv, .int iS, .ref aPa, .int (nI K), .int 0, .ref aOu, .int (nI OM), .ref aTx, .int (nI LN), .int (nI PO), .int iw, .int ea, .int fa, .ref aCo, .int (nI CM)])), (aS, .inl (cy 2, 89, .inl (encS σ)))] (some (.int (lasF (fun b9 => rkN (vB σ) (hB σ) b9 (nB σ)) i (nB σ)))) := by
  refine WC.ofW (cc := cX8_bathByTemperature) (maxL := 7) (ret := (some .int)) (by decide) rfl (Nat.le_of_ble_eq_true rfl) ?_
  intro p e s m below meth c S9 hr hlocks hPB hD hS ls hl
  obtain ⟨hx, hb, hml, hown, hts⟩ := id S9
  obtain ⟨hP, hK⟩ := hPB
  have hl : lv_has ls 7 [(0, .ref am), (1, .int i)] := hl
  have hP : va_P G vwCl [(am, .inr (12, [.ref aS, .ref aBf, .ref aAs, .ref aSv, .int iS, .ref aPa, .int (nI K), .int th, .ref aOu, .int (nI OM), .ref aTx, .int (nI LN), .int (nI PO), .int iw, .int ea, .int fa, .ref aCo, .int (nI CM)])), (aS, .inl (cy 2, 89, .inl (encT (nB σ) (vB σ) (hB σ) (pB σ) (mB σ) (nD σ) (bD σ) (lD σ) (uD σ) (qD σ) (wD σ) (nE σ) (kE σ) (bE σ) (lE σ) (tT σ) (dT σ) (aT σ) (rT σ) (hT σ) (xT σ))))] s.heap := hP
  have hD0 := hD
  have hD : va_D (wA [(am, .inr (12, [.ref aS, .ref aBf, .ref aAs, .ref aSv, .int iS, .ref aPa, .int (nI K), .int th, .ref aOu, .int (nI OM), .ref aTx, .int (nI LN), .int (nI PO), .int iw, .int ea, .int fa, .ref aCo, .int (nI CM)])), (aS, .inl (cy 2, 89, .inl (encS σ)))]) [(am, .inr (12, [.ref aS, .ref aBf, .ref aAs, .ref aSv, .int iS, .ref aPa, .int (nI K), .int th, .ref aOu, .int (nI OM), .ref aTx, .int (nI LN), .int (nI PO), .int iw, .int ea, .int fa, .ref aCo, .int (nI CM)])), (aS, .inl (cy 2, 89, .inl (encT (nB σ) (vB σ) (hB σ) (pB σ) (mB σ) (nD σ) (bD σ) (lD σ) (uD σ) (qD σ) (wD σ) (nE σ) (kE σ) (bE σ) (lE σ) (tT σ) (dT σ) (aT σ) (rT σ) (hT σ) (xT σ))))] := hD
  have hi12 : ∀ w ∈ wsX80, w ∈ wsX8_bathByTemperature := by decide +kernel
  have hf9 := hts (.fieldLink RX8 9 "BathLeagueModel" "s" "[I") (by decide +kernel)
  have hN0 := ho.1
  have hM0 := ho.2.1
  have hE0 := ho.2.2.1
  refine lv_iconst (v := 0) hx hb dX8_bathByTemperature_0 (by decide) ?_
  refine lv_istore_n (lv' := [(2, .int 0), (0, .ref am), (1, .int i)]) hx hb dX8_bathByTemperature_1 rfl hl (by decide) rfl (fun ls hl => ?_)
  refine lv_aload_n hx hb dX8_bathByTemperature_2 rfl (lv_at hl 1 rfl) ?_
  refine lv_aload_n hx hb dX8_bathByTemperature_3 rfl (lv_at hl 1 rfl) ?_
  refine lv_iload_n hx hb dX8_bathByTemperature_4 rfl (lv_at hl 2 rfl) ?_
  refine c_roVi S9 (c_X8_isBath l G cy am aS aBf aAs aSv aPa aOu aTx aCo K OM LN PO CM iS th iw ea fa (nB σ) (vB σ) (hB σ) (pB σ) (mB σ) (nD σ) (bD σ) (lD σ) (uD σ) (qD σ) (wD σ) (nE σ) (kE σ) (bE σ) (lE σ) (tT σ) (dT σ) (aT σ) (rT σ) (hT σ) (xT σ) i ho.1) (cwV 1 hts gX8_bathByTemperature_X8_isBath rfl rfl rfl (by decide +kernel) ⟨Nat.le_of_ble_eq_true rfl, Nat.le_of_ble_eq_true rfl⟩) PB.blind (va_recv hK.1 hP (ci := 12) (q0 := 0) rfl rfl) (PB.at hK (m_Ppart hP [0, 1] rfl)) rfl hl.1 rfl (Nat.le_of_ble_eq_true rfl) ⟨Nat.zero_le _, Nat.zero_le _⟩ dX8_bathByTemperature_5 ?_
  refine lv_t0 (if_pos hF) ?_
  refine c_wcVi (ws' := [(am, .inr (12, [.ref aS, .ref aBf, .ref aAs, .ref aSv, .int iS, .ref aPa, .int (nI K), .int 0, .ref aOu, .int (nI OM), .ref aTx, .int (nI LN), .int (nI PO), .int iw, .int ea, .int fa, .ref aCo, .int (nI CM)])), (aS, .inl (cy 2, 89, .inl (encT (nB σ) (vB σ) (hB σ) (pB σ) (mB σ) (nD σ) (bD σ) (lD σ) (uD σ) (qD σ) (wD σ) (nE σ) (kE σ) (bE σ) (lE σ) (tT σ) (dT σ) (aT σ) (rT σ) (hT σ) (xT σ))))]) S9 (c_X8_isThere_1 l G cy am aS aBf aAs aSv aPa aOu aTx aCo K OM LN PO CM iS th iw ea fa (nB σ) (vB σ) (hB σ) (pB σ) (mB σ) (nD σ) (bD σ) (lD σ) (uD σ) (qD σ) (wD σ) (nE σ) (kE σ) (bE σ) (lE σ) (tT σ) (dT σ) (aT σ) (rT σ) (hT σ) (xT σ)) (cwV 1 hts gX8_bathByTemperature_X8_isThere rfl rfl rfl (by decide +kernel) ⟨Nat.le_of_ble_eq_true rfl, Nat.le_of_ble_eq_true rfl⟩) PB.blind (va_recv hK.1 hP (ci := 12) (q0 := 0) rfl rfl) (PB.at hK (m_Ppart hP [0, 1] rfl)) hP hD hS [0, 1] rfl rfl m_f2 rfl rfl hl.1 rfl (Nat.le_of_ble_eq_true rfl) ⟨Nat.zero_le _, Nat.zero_le _⟩ dX8_bathByTemperature_8 (fun H locs hP hD hS => ?_)
  refine lv_istore_n (lv' := [(3, .int 1), (2, .int 0), (0, .ref am), (1, .int i)]) hx hb dX8_bathByTemperature_11 rfl hl (by decide) rfl (fun ls hl => ?_)
  refine lv_iconst (v := 0) hx hb dX8_bathByTemperature_12 (by decide) ?_
  refine lv_istore (lv' := [(4, .int 0), (3, .int 1), (2, .int 0), (0, .ref am), (1, .int i)]) hx hb dX8_bathByTemperature_13 hl (by decide) rfl (fun ls hl => ?_)
  have L_1 : ∀ (d k : Nat), k + d = nB σ → ∀ (H : Heap) (locs : List Loc), va_P G vwCl [(am, .inr (12, [.ref aS, .ref aBf, .ref aAs, .ref aSv, .int iS, .ref aPa, .int (nI K), .int 0, .ref aOu, .int (nI OM), .ref aTx, .int (nI LN), .int (nI PO), .int iw, .int ea, .int fa, .ref aCo, .int (nI CM)])), (aS, .inl (cy 2, 89, .inl (encS σ)))] H → va_D (wA [(am, .inr (12, [.ref aS, .ref aBf, .ref aAs, .ref aSv, .int iS, .ref aPa, .int (nI K), .int th, .ref aOu, .int (nI OM), .ref aTx, .int (nI LN), .int (nI PO), .int iw, .int ea, .int fa, .ref aCo, .int (nI CM)])), (aS, .inl (cy 2, 89, .inl (encS σ)))]) [(am, .inr (12, [.ref aS, .ref aBf, .ref aAs, .ref aSv, .int iS, .ref aPa, .int (nI K), .int 0, .ref aOu, .int (nI OM), .ref aTx, .int (nI LN), .int (nI PO), .int iw, .int ea, .int fa, .ref aCo, .int (nI CM)])), (aS, .inl (cy 2, 89, .inl (encS σ)))] → va_S (wA [(am, .inr (12, [.ref aS, .ref aBf, .ref aAs, .ref aSv, .int iS, .ref aPa, .int (nI K), .int th, .ref aOu, .int (nI OM), .ref aTx, .int (nI LN), .int (nI PO), .int iw, .int ea, .int fa, .ref aCo, .int (nI CM)])), (aS, .inl (cy 2, 89, .inl (encS σ)))]) s.heap H locs → ∀ ls : Array Slot, lv_has ls 7 [(0, .ref am), (1, .int i), (2, .int (lasF (fun b9 => rkN (vB σ) (hB σ) b9 (nB σ)) i k)), (3, .int 1), (4, .int (nI k))] → W p l e ({ frames := 3, cells := 0, slots := 0, locals := 67 } : Room) s m ([.ref am, .int i] : List Value).toArray below meth c H locs 0 0 (wcZ below ([.ref am, .int i] : List Value).toArray s G [(am, .inr (12, [.ref aS, .ref aBf, .ref aAs, .ref aSv, .int iS, .ref aPa, .int (nI K), .int th, .ref aOu, .int (nI OM), .ref aTx, .int (nI LN), .int (nI PO), .int iw, .int ea, .int fa, .ref aCo, .int (nI CM)])), (aS, .inl (cy 2, 89, .inl (encS σ)))] [(am, .inr (12, [.ref aS, .ref aBf, .ref aAs, .ref aSv, .int iS, .ref aPa, .int (nI K), .int 0, .ref aOu, .int (nI OM), .ref aTx, .int (nI LN), .int (nI PO), .int iw, .int ea, .int fa, .ref aCo, .int (nI CM)])), (aS, .inl (cy 2, 89, .inl (encS σ)))] (some (.int (lasF (fun b9 => rkN (vB σ) (hB σ) b9 (nB σ)) i (nB σ))))) (F0 m 15 ls []) := by
    intro d
    induction d with
    | zero =>
      intro k hkk H locs hP hD hS ls hl
      have hP : va_P G vwCl [(am, .inr (12, [.ref aS, .ref aBf, .ref aAs, .ref aSv, .int iS, .ref aPa, .int (nI K), .int 0, .ref aOu, .int (nI OM), .ref aTx, .int (nI LN), .int (nI PO), .int iw, .int ea, .int fa, .ref aCo, .int (nI CM)])), (aS, .inl (cy 2, 89, .inl (encT (nB σ) (vB σ) (hB σ) (pB σ) (mB σ) (nD σ) (bD σ) (lD σ) (uD σ) (qD σ) (wD σ) (nE σ) (kE σ) (bE σ) (lE σ) (tT σ) (dT σ) (aT σ) (rT σ) (hT σ) (xT σ))))] H := hP
      have hD : va_D (wA [(am, .inr (12, [.ref aS, .ref aBf, .ref aAs, .ref aSv, .int iS, .ref aPa, .int (nI K), .int th, .ref aOu, .int (nI OM), .ref aTx, .int (nI LN), .int (nI PO), .int iw, .int ea, .int fa, .ref aCo, .int (nI CM)])), (aS, .inl (cy 2, 89, .inl (encS σ)))]) [(am, .inr (12, [.ref aS, .ref aBf, .ref aAs, .ref aSv, .int iS, .ref aPa, .int (nI K), .int 0, .ref aOu, .int (nI OM), .ref aTx, .int (nI LN), .int (nI PO), .int iw, .int ea, .int fa, .ref aCo, .int (nI CM)])), (aS, .inl (cy 2, 89, .inl (encT (nB σ) (vB σ) (hB σ) (pB σ) (mB σ) (nD σ) (bD σ) (lD σ) (uD σ) (qD σ) (wD σ) (nE σ) (kE σ) (bE σ) (lE σ) (tT σ) (dT σ) (aT σ) (rT σ) (hT σ) (xT σ))))] := hD
      refine lv_iload hx hb dX8_bathByTemperature_15 (lv_at hl 4 rfl) ?_
      refine lv_aload_n hx hb dX8_bathByTemperature_17 rfl (lv_at hl 0 rfl) ?_
      refine va_get (D := G) (ci := 12) (v := .ref aS) (C := RX8) (T := TX8) (N := 18) hx hb hts hi12 hown hK.1 hP 0 rfl rfl 0 (by decide) hf9 (fun _ h9 => h9) rfl dX8_bathByTemperature_18 ?_
      refine lv_iconst (v := 0) hx hb dX8_bathByTemperature_21 (by decide) ?_
      refine m_iald hx hb hK hP 1 (k := 0) rfl rfl (by omega) (Nat.le_of_ble_eq_true rfl) dX8_bathByTemperature_22 ?_
      refine lv_t0 (encR_0 rfl) ?_
      refine lv_icmp_ge (tgt := 100) hx hb dX8_bathByTemperature_23 (by decide) (fun c_2 => ?_) (fun c_2 => ?_)
      · have k_3 : (nB σ) ≤ k := (m_leN (a := (nB σ)) (b := k) rfl rfl (by omega) (by omega)).mp c_2
        have k_3' : ¬ (k < (nB σ)) := by omega
        refine lv_iload_n hx hb dX8_bathByTemperature_100 rfl (lv_at hl 2 rfl) ?_
        exact wc_iret hx hb hr hlocks hP hS (by rw [show nB σ = k by omega]) dX8_bathByTemperature_101
      · have k_4 : ¬ ((nB σ) ≤ k) := fun z => c_2 ((m_leN (a := (nB σ)) (b := k) rfl rfl (by omega) (by omega)).mpr z)
        have k_4' : k < (nB σ) := by omega
        exfalso; omega
    | succ d ih =>
      intro k hkk H locs hP hD hS ls hl
      have hP : va_P G vwCl [(am, .inr (12, [.ref aS, .ref aBf, .ref aAs, .ref aSv, .int iS, .ref aPa, .int (nI K), .int 0, .ref aOu, .int (nI OM), .ref aTx, .int (nI LN), .int (nI PO), .int iw, .int ea, .int fa, .ref aCo, .int (nI CM)])), (aS, .inl (cy 2, 89, .inl (encT (nB σ) (vB σ) (hB σ) (pB σ) (mB σ) (nD σ) (bD σ) (lD σ) (uD σ) (qD σ) (wD σ) (nE σ) (kE σ) (bE σ) (lE σ) (tT σ) (dT σ) (aT σ) (rT σ) (hT σ) (xT σ))))] H := hP
      have hD : va_D (wA [(am, .inr (12, [.ref aS, .ref aBf, .ref aAs, .ref aSv, .int iS, .ref aPa, .int (nI K), .int th, .ref aOu, .int (nI OM), .ref aTx, .int (nI LN), .int (nI PO), .int iw, .int ea, .int fa, .ref aCo, .int (nI CM)])), (aS, .inl (cy 2, 89, .inl (encS σ)))]) [(am, .inr (12, [.ref aS, .ref aBf, .ref aAs, .ref aSv, .int iS, .ref aPa, .int (nI K), .int 0, .ref aOu, .int (nI OM), .ref aTx, .int (nI LN), .int (nI PO), .int iw, .int ea, .int fa, .ref aCo, .int (nI CM)])), (aS, .inl (cy 2, 89, .inl (encT (nB σ) (vB σ) (hB σ) (pB σ) (mB σ) (nD σ) (bD σ) (lD σ) (uD σ) (qD σ) (wD σ) (nE σ) (kE σ) (bE σ) (lE σ) (tT σ) (dT σ) (aT σ) (rT σ) (hT σ) (xT σ))))] := hD
      refine lv_iload hx hb dX8_bathByTemperature_15 (lv_at hl 4 rfl) ?_
      refine lv_aload_n hx hb dX8_bathByTemperature_17 rfl (lv_at hl 0 rfl) ?_
      refine va_get (D := G) (ci := 12) (v := .ref aS) (C := RX8) (T := TX8) (N := 18) hx hb hts hi12 hown hK.1 hP 0 rfl rfl 0 (by decide) hf9 (fun _ h9 => h9) rfl dX8_bathByTemperature_18 ?_
      refine lv_iconst (v := 0) hx hb dX8_bathByTemperature_21 (by decide) ?_
      refine m_iald hx hb hK hP 1 (k := 0) rfl rfl (by omega) (Nat.le_of_ble_eq_true rfl) dX8_bathByTemperature_22 ?_
      refine lv_t0 (encR_0 rfl) ?_
      refine lv_icmp_ge (tgt := 100) hx hb dX8_bathByTemperature_23 (by decide) (fun c_5 => ?_) (fun c_5 => ?_)
      · have k_6 : (nB σ) ≤ k := (m_leN (a := (nB σ)) (b := k) rfl rfl (by omega) (by omega)).mp c_5
        have k_6' : ¬ (k < (nB σ)) := by omega
        exfalso; omega
      · have k_7 : ¬ ((nB σ) ≤ k) := fun z => c_5 ((m_leN (a := (nB σ)) (b := k) rfl rfl (by omega) (by omega)).mpr z)
        have k_7' : k < (nB σ) := by omega
        refine lv_iload_n hx hb dX8_bathByTemperature_26 rfl (lv_at hl 3 rfl) ?_
        refine lv_if_eq (tgt := 100) hx hb dX8_bathByTemperature_27 (by decide) (fun c_8 => ?_) (fun c_8 => ?_)
        · exact absurd c_8 (by decide)
        · refine lv_iconst (v := 0) hx hb dX8_bathByTemperature_30 (by decide) ?_
          refine lv_istore (lv' := [(5, .int 0), (0, .ref am), (1, .int i), (2, .int (lasF (fun b9 => rkN (vB σ) (hB σ) b9 (nB σ)) i k)), (3, .int 1), (4, .int (nI k))]) hx hb dX8_bathByTemperature_31 hl (by decide) rfl (fun ls hl => ?_)
          refine lv_iconst (v := 0) hx hb dX8_bathByTemperature_33 (by decide) ?_
          refine lv_istore (lv' := [(6, .int 0), (5, .int 0), (0, .ref am), (1, .int i), (2, .int (lasF (fun b9 => rkN (vB σ) (hB σ) b9 (nB σ)) i k)), (3, .int 1), (4, .int (nI k))]) hx hb dX8_bathByTemperature_34 hl (by decide) rfl (fun ls hl => ?_)
          have L_9 : ∀ (d j9 : Nat), j9 + d = nB σ → ∀ (H : Heap) (locs : List Loc), va_P G vwCl [(am, .inr (12, [.ref aS, .ref aBf, .ref aAs, .ref aSv, .int iS, .ref aPa, .int (nI K), .int 0, .ref aOu, .int (nI OM), .ref aTx, .int (nI LN), .int (nI PO), .int iw, .int ea, .int fa, .ref aCo, .int (nI CM)])), (aS, .inl (cy 2, 89, .inl (encS σ)))] H → va_D (wA [(am, .inr (12, [.ref aS, .ref aBf, .ref aAs, .ref aSv, .int iS, .ref aPa, .int (nI K), .int th, .ref aOu, .int (nI OM), .ref aTx, .int (nI LN), .int (nI PO), .int iw, .int ea, .int fa, .ref aCo, .int (nI CM)])), (aS, .inl (cy 2, 89, .inl (encS σ)))]) [(am, .inr (12, [.ref aS, .ref aBf, .ref aAs, .ref aSv, .int iS, .ref aPa, .int (nI K), .int 0, .ref aOu, .int (nI OM), .ref aTx, .int (nI LN), .int (nI PO), .int iw, .int ea, .int fa, .ref aCo, .int (nI CM)])), (aS, .inl (cy 2, 89, .inl (encS σ)))] → va_S (wA [(am, .inr (12, [.ref aS, .ref aBf, .ref aAs, .ref aSv, .int iS, .ref aPa, .int (nI K), .int th, .ref aOu, .int (nI OM), .ref aTx, .int (nI LN), .int (nI PO), .int iw, .int ea, .int fa, .ref aCo, .int (nI CM)])), (aS, .inl (cy 2, 89, .inl (encS σ)))]) s.heap H locs → ∀ ls : Array Slot, lv_has ls 7 [(0, .ref am), (1, .int i), (2, .int (lasF (fun b9 => rkN (vB σ) (hB σ) b9 (nB σ)) i k)), (3, .int 1), (4, .int (nI k)), (5, .int (rkN (vB σ) (hB σ) k j9)), (6, .int (nI j9))] → W p l e ({ frames := 3, cells := 0, slots := 0, locals := 67 } : Room) s m ([.ref am, .int i] : List Value).toArray below meth c H locs 0 0 (wcZ below ([.ref am, .int i] : List Value).toArray s G [(am, .inr (12, [.ref aS, .ref aBf, .ref aAs, .ref aSv, .int iS, .ref aPa, .int (nI K), .int th, .ref aOu, .int (nI OM), .ref aTx, .int (nI LN), .int (nI PO), .int iw, .int ea, .int fa, .ref aCo, .int (nI CM)])), (aS, .inl (cy 2, 89, .inl (encS σ)))] [(am, .inr (12, [.ref aS, .ref aBf, .ref aAs, .ref aSv, .int iS, .ref aPa, .int (nI K), .int 0, .ref aOu, .int (nI OM), .ref aTx, .int (nI LN), .int (nI PO), .int iw, .int ea, .int fa, .ref aCo, .int (nI CM)])), (aS, .inl (cy 2, 89, .inl (encS σ)))] (some (.int (lasF (fun b9 => rkN (vB σ) (hB σ) b9 (nB σ)) i (nB σ))))) (F0 m 36 ls []) := by
            intro d
            induction d with
            | zero =>
              intro j9 hkj9 H locs hP hD hS ls hl
              have hP : va_P G vwCl [(am, .inr (12, [.ref aS, .ref aBf, .ref aAs, .ref aSv, .int iS, .ref aPa, .int (nI K), .int 0, .ref aOu, .int (nI OM), .ref aTx, .int (nI LN), .int (nI PO), .int iw, .int ea, .int fa, .ref aCo, .int (nI CM)])), (aS, .inl (cy 2, 89, .inl (encT (nB σ) (vB σ) (hB σ) (pB σ) (mB σ) (nD σ) (bD σ) (lD σ) (uD σ) (qD σ) (wD σ) (nE σ) (kE σ) (bE σ) (lE σ) (tT σ) (dT σ) (aT σ) (rT σ) (hT σ) (xT σ))))] H := hP
              have hD : va_D (wA [(am, .inr (12, [.ref aS, .ref aBf, .ref aAs, .ref aSv, .int iS, .ref aPa, .int (nI K), .int th, .ref aOu, .int (nI OM), .ref aTx, .int (nI LN), .int (nI PO), .int iw, .int ea, .int fa, .ref aCo, .int (nI CM)])), (aS, .inl (cy 2, 89, .inl (encS σ)))]) [(am, .inr (12, [.ref aS, .ref aBf, .ref aAs, .ref aSv, .int iS, .ref aPa, .int (nI K), .int 0, .ref aOu, .int (nI OM), .ref aTx, .int (nI LN), .int (nI PO), .int iw, .int ea, .int fa, .ref aCo, .int (nI CM)])), (aS, .inl (cy 2, 89, .inl (encT (nB σ) (vB σ) (hB σ) (pB σ) (mB σ) (nD σ) (bD σ) (lD σ) (uD σ) (qD σ) (wD σ) (nE σ) (kE σ) (bE σ) (lE σ) (tT σ) (dT σ) (aT σ) (rT σ) (hT σ) (xT σ))))] := hD
              obtain rfl : j9 = nB σ := by omega
              have hl : lv_has ls 7 [(0, .ref am), (1, .int i), (2, .int (lasF (fun b9 => rkN (vB σ) (hB σ) b9 (nB σ)) i k)), (3, .int 1), (4, .int (nI k)), (5, .int (rkN (vB σ) (hB σ) k (nB σ))), (6, .int (nI (nB σ)))] := hl
              refine lv_iload hx hb dX8_bathByTemperature_36 (lv_at hl 6 rfl) ?_
              refine lv_aload_n hx hb dX8_bathByTemperature_38 rfl (lv_at hl 0 rfl) ?_
              refine va_get (D := G) (ci := 12) (v := .ref aS) (C := RX8) (T := TX8) (N := 18) hx hb hts hi12 hown hK.1 hP 0 rfl rfl 0 (by decide) hf9 (fun _ h9 => h9) rfl dX8_bathByTemperature_39 ?_
              refine lv_iconst (v := 0) hx hb dX8_bathByTemperature_42 (by decide) ?_
              refine m_iald hx hb hK hP 1 (k := 0) rfl rfl (by omega) (Nat.le_of_ble_eq_true rfl) dX8_bathByTemperature_43 ?_
              refine lv_t0 (encR_0 rfl) ?_
              refine lv_icmp_ge (tgt := 81) hx hb dX8_bathByTemperature_44 (by decide) (fun c_10 => ?_) (fun c_10 => ?_)
              · have k_11 : (nB σ) ≤ nB σ := (m_leN (a := (nB σ)) (b := nB σ) rfl rfl (by omega) (by omega)).mp c_10
                have k_11' : ¬ (nB σ < (nB σ)) := by omega
                refine lv_iload hx hb dX8_bathByTemperature_81 (lv_at hl 5 rfl) ?_
                refine lv_iload_n hx hb dX8_bathByTemperature_83 rfl (lv_at hl 1 rfl) ?_
                refine lv_icmp_ne (tgt := 92) hx hb dX8_bathByTemperature_84 (by decide) (fun c_12 => ?_) (fun c_12 => ?_)
                · refine lv_iload_n hx hb dX8_bathByTemperature_92 rfl (lv_at hl 2 rfl) ?_
                  refine lv_istore_n (lv' := [(2, .int (lasF (fun b9 => rkN (vB σ) (hB σ) b9 (nB σ)) i k)), (0, .ref am), (1, .int i), (3, .int 1), (4, .int (nI k)), (5, .int (rkN (vB σ) (hB σ) k (nB σ))), (6, .int (nI (nB σ)))]) hx hb dX8_bathByTemperature_93 rfl hl (by decide) rfl (fun ls hl => ?_)
                  refine lv_iinc (v := nI (k + 1)) (lv' := [(4, .int (nI (k + 1))), (2, .int (lasF (fun b9 => rkN (vB σ) (hB σ) b9 (nB σ)) i k)), (0, .ref am), (1, .int i), (3, .int 1), (5, .int (rkN (vB σ) (hB σ) k (nB σ))), (6, .int (nI (nB σ)))]) hx hb dX8_bathByTemperature_94 hl (k := 4) rfl (m_inc _) (by decide) rfl (fun ls hl => ?_)
                  refine lv_goto (tgt := 15) hx hb dX8_bathByTemperature_97 (by decide) ?_
                  have e_13 : lasF (fun b9 => rkN (vB σ) (hB σ) b9 (nB σ)) i (k + 1) = lasF (fun b9 => rkN (vB σ) (hB σ) b9 (nB σ)) i k := (by simp [lasF, c_5, c_10, c_12])
                  exact ih (k + 1) (by omega) H locs hP (m_D2 hD) hS ls (by rw [e_13]; exact lv_sub hl [2, 3, 1, 4, 0] rfl)
                · refine lv_iload hx hb dX8_bathByTemperature_87 (lv_at hl 4 rfl) ?_
                  refine lv_goto (tgt := 93) hx hb dX8_bathByTemperature_89 (by decide) ?_
                  refine lv_istore_n (lv' := [(2, .int (nI k)), (0, .ref am), (1, .int i), (3, .int 1), (4, .int (nI k)), (5, .int (rkN (vB σ) (hB σ) k (nB σ))), (6, .int (nI (nB σ)))]) hx hb dX8_bathByTemperature_93 rfl hl (by decide) rfl (fun ls hl => ?_)
                  refine lv_iinc (v := nI (k + 1)) (lv' := [(4, .int (nI (k + 1))), (2, .int (nI k)), (0, .ref am), (1, .int i), (3, .int 1), (5, .int (rkN (vB σ) (hB σ) k (nB σ))), (6, .int (nI (nB σ)))]) hx hb dX8_bathByTemperature_94 hl (k := 4) rfl (m_inc _) (by decide) rfl (fun ls hl => ?_)
                  refine lv_goto (tgt := 15) hx hb dX8_bathByTemperature_97 (by decide) ?_
                  have e_14 : lasF (fun b9 => rkN (vB σ) (hB σ) b9 (nB σ)) i (k + 1) = nI k := (by simp [lasF, c_5, c_10, c_12])
                  exact ih (k + 1) (by omega) H locs hP (m_D2 hD) hS ls (by rw [e_14]; exact lv_sub hl [2, 3, 1, 4, 0] rfl)
              · have k_15 : ¬ ((nB σ) ≤ nB σ) := fun z => c_10 ((m_leN (a := (nB σ)) (b := nB σ) rfl rfl (by omega) (by omega)).mpr z)
                have k_15' : nB σ < (nB σ) := by omega
                exfalso; omega
            | succ d ih =>
              intro j9 hkj9 H locs hP hD hS ls hl
              have hP : va_P G vwCl [(am, .inr (12, [.ref aS, .ref aBf, .ref aAs, .ref aSv, .int iS, .ref aPa, .int (nI K), .int 0, .ref aOu, .int (nI OM), .ref aTx, .int (nI LN), .int (nI PO), .int iw, .int ea, .int fa, .ref aCo, .int (nI CM)])), (aS, .inl (cy 2, 89, .inl (encT (nB σ) (vB σ) (hB σ) (pB σ) (mB σ) (nD σ) (bD σ) (lD σ) (uD σ) (qD σ) (wD σ) (nE σ) (kE σ) (bE σ) (lE σ) (tT σ) (dT σ) (aT σ) (rT σ) (hT σ) (xT σ))))] H := hP
              have hD : va_D (wA [(am, .inr (12, [.ref aS, .ref aBf, .ref aAs, .ref aSv, .int iS, .ref aPa, .int (nI K), .int th, .ref aOu, .int (nI OM), .ref aTx, .int (nI LN), .int (nI PO), .int iw, .int ea, .int fa, .ref aCo, .int (nI CM)])), (aS, .inl (cy 2, 89, .inl (encS σ)))]) [(am, .inr (12, [.ref aS, .ref aBf, .ref aAs, .ref aSv, .int iS, .ref aPa, .int (nI K), .int 0, .ref aOu, .int (nI OM), .ref aTx, .int (nI LN), .int (nI PO), .int iw, .int ea, .int fa, .ref aCo, .int (nI CM)])), (aS, .inl (cy 2, 89, .inl (encT (nB σ) (vB σ) (hB σ) (pB σ) (mB σ) (nD σ) (bD σ) (lD σ) (uD σ) (qD σ) (wD σ) (nE σ) (kE σ) (bE σ) (lE σ) (tT σ) (dT σ) (aT σ) (rT σ) (hT σ) (xT σ))))] := hD
              refine lv_iload hx hb dX8_bathByTemperature_36 (lv_at hl 6 rfl) ?_
              refine lv_aload_n hx hb dX8_bathByTemperature_38 rfl (lv_at hl 0 rfl) ?_
              refine va_get (D := G) (ci := 12) (v := .ref aS) (C := RX8) (T := TX8) (N := 18) hx hb hts hi12 hown hK.1 hP 0 rfl rfl 0 (by decide) hf9 (fun _ h9 => h9) rfl dX8_bathByTemperature_39 ?_
              refine lv_iconst (v := 0) hx hb dX8_bathByTemperature_42 (by decide) ?_
              refine m_iald hx hb hK hP 1 (k := 0) rfl rfl (by omega) (Nat.le_of_ble_eq_true rfl) dX8_bathByTemperature_43 ?_
              refine lv_t0 (encR_0 rfl) ?_
              refine lv_icmp_ge (tgt := 81) hx hb dX8_bathByTemperature_44 (by decide) (fun c_16 => ?_) (fun c_16 => ?_)
              · have k_17 : (nB σ) ≤ j9 := (m_leN (a := (nB σ)) (b := j9) rfl rfl (by omega) (by omega)).mp c_16
                have k_17' : ¬ (j9 < (nB σ)) := by omega
                exfalso; omega
              · have k_18 : ¬ ((nB σ) ≤ j9) := fun z => c_16 ((m_leN (a := (nB σ)) (b := j9) rfl rfl (by omega) (by omega)).mpr z)
                have k_18' : j9 < (nB σ) := by omega
                refine lv_iload hx hb dX8_bathByTemperature_47 (lv_at hl 5 rfl) ?_
                refine lv_iload hx hb dX8_bathByTemperature_49 (lv_at hl 6 rfl) ?_
                refine lv_iload hx hb dX8_bathByTemperature_51 (lv_at hl 4 rfl) ?_
                refine lv_icmp_eq (tgt := 71) hx hb dX8_bathByTemperature_53 (by decide) (fun c_19 => ?_) (fun c_19 => ?_)
                · have k_20 : j9 = k := (m_eqN (a := j9) (b := k) rfl rfl (by omega) (by omega)).mp c_19
                  refine lv_iconst (v := 0) hx hb dX8_bathByTemperature_71 (by decide) ?_
                  refine lv_iadd hx hb dX8_bathByTemperature_72 ?_
                  refine lv_istore (lv' := [(5, .int ((rkN (vB σ) (hB σ) k j9) + 0)), (0, .ref am), (1, .int i), (2, .int (lasF (fun b9 => rkN (vB σ) (hB σ) b9 (nB σ)) i k)), (3, .int 1), (4, .int (nI k)), (6, .int (nI j9))]) hx hb dX8_bathByTemperature_73 hl (by decide) rfl (fun ls hl => ?_)
                  refine lv_iinc (v := nI (j9 + 1)) (lv' := [(6, .int (nI (j9 + 1))), (5, .int ((rkN (vB σ) (hB σ) k j9) + 0)), (0, .ref am), (1, .int i), (2, .int (lasF (fun b9 => rkN (vB σ) (hB σ) b9 (nB σ)) i k)), (3, .int 1), (4, .int (nI k))]) hx hb dX8_bathByTemperature_75 hl (k := 6) rfl (m_inc _) (by decide) rfl (fun ls hl => ?_)
                  refine lv_goto (tgt := 36) hx hb dX8_bathByTemperature_78 (by decide) ?_
                  have e_21 : rkN (vB σ) (hB σ) k (j9 + 1) = (rkN (vB σ) (hB σ) k j9) + 0 := (by simp only [rkN, Int32.add_zero]; rw [if_neg (by rw [show j9 = k by omega]; exact rkB_irr)])
                  exact ih (j9 + 1) (by omega) H locs hP (m_D2 hD) hS ls (by rw [e_21]; exact lv_sub hl [2, 3, 4, 5, 6, 1, 0] rfl)
                · have k_22 : ¬ (j9 = k) := fun z => c_19 ((m_eqN (a := j9) (b := k) rfl rfl (by omega) (by omega)).mpr z)
                  refine lv_aload_n hx hb dX8_bathByTemperature_56 rfl (lv_at hl 0 rfl) ?_
                  refine lv_iload hx hb dX8_bathByTemperature_57 (lv_at hl 6 rfl) ?_
                  refine lv_iload hx hb dX8_bathByTemperature_59 (lv_at hl 4 rfl) ?_
                  refine c_roVi S9 (c_X8_isAhead l G cy am aS aBf aAs aSv aPa aOu aTx aCo K OM LN PO CM iS 0 iw ea fa (nB σ) (vB σ) (hB σ) (pB σ) (mB σ) (nD σ) (bD σ) (lD σ) (uD σ) (qD σ) (wD σ) (nE σ) (kE σ) (bE σ) (lE σ) (tT σ) (dT σ) (aT σ) (rT σ) (hT σ) (xT σ) j9 k (by omega) (by omega) hbd) (cwV 2 hts gX8_bathByTemperature_X8_isAhead rfl rfl rfl (by decide +kernel) ⟨Nat.le_of_ble_eq_true rfl, Nat.le_of_ble_eq_true rfl⟩) PB.blind (va_recv hK.1 hP (ci := 12) (q0 := 0) rfl rfl) (PB.at hK (m_Ppart hP [0, 1] rfl)) rfl hl.1 rfl (Nat.le_of_ble_eq_true rfl) ⟨Nat.zero_le _, Nat.zero_le _⟩ dX8_bathByTemperature_61 ?_
                  refine lv_if_eq (tgt := 71) hx hb dX8_bathByTemperature_64 (by decide) (fun c_23 => ?_) (fun c_23 => ?_)
                  · have b_24 : ¬ (rkB (vB σ) (hB σ) j9 k = true) := m_ite0.mp c_23
                    refine lv_iconst (v := 0) hx hb dX8_bathByTemperature_71 (by decide) ?_
                    refine lv_iadd hx hb dX8_bathByTemperature_72 ?_
                    refine lv_istore (lv' := [(5, .int ((rkN (vB σ) (hB σ) k j9) + 0)), (0, .ref am), (1, .int i), (2, .int (lasF (fun b9 => rkN (vB σ) (hB σ) b9 (nB σ)) i k)), (3, .int 1), (4, .int (nI k)), (6, .int (nI j9))]) hx hb dX8_bathByTemperature_73 hl (by decide) rfl (fun ls hl => ?_)
                    refine lv_iinc (v := nI (j9 + 1)) (lv' := [(6, .int (nI (j9 + 1))), (5, .int ((rkN (vB σ) (hB σ) k j9) + 0)), (0, .ref am), (1, .int i), (2, .int (lasF (fun b9 => rkN (vB σ) (hB σ) b9 (nB σ)) i k)), (3, .int 1), (4, .int (nI k))]) hx hb dX8_bathByTemperature_75 hl (k := 6) rfl (m_inc _) (by decide) rfl (fun ls hl => ?_)
                    refine lv_goto (tgt := 36) hx hb dX8_bathByTemperature_78 (by decide) ?_
                    have e_25 : rkN (vB σ) (hB σ) k (j9 + 1) = (rkN (vB σ) (hB σ) k j9) + 0 := (by simp only [rkN, Int32.add_zero]; rw [if_neg b_24])
                    exact ih (j9 + 1) (by omega) H locs hP (m_D2 hD) hS ls (by rw [e_25]; exact lv_sub hl [2, 3, 4, 5, 6, 1, 0] rfl)
                  · have b_26 : rkB (vB σ) (hB σ) j9 k = true := m_ite1.mp c_23
                    refine lv_iconst (v := 1) hx hb dX8_bathByTemperature_67 (by decide) ?_
                    refine lv_goto (tgt := 72) hx hb dX8_bathByTemperature_68 (by decide) ?_
                    refine lv_iadd hx hb dX8_bathByTemperature_72 ?_
                    refine lv_istore (lv' := [(5, .int ((rkN (vB σ) (hB σ) k j9) + 1)), (0, .ref am), (1, .int i), (2, .int (lasF (fun b9 => rkN (vB σ) (hB σ) b9 (nB σ)) i k)), (3, .int 1), (4, .int (nI k)), (6, .int (nI j9))]) hx hb dX8_bathByTemperature_73 hl (by decide) rfl (fun ls hl => ?_)
                    refine lv_iinc (v := nI (j9 + 1)) (lv' := [(6, .int (nI (j9 + 1))), (5, .int ((rkN (vB σ) (hB σ) k j9) + 1)), (0, .ref am), (1, .int i), (2, .int (lasF (fun b9 => rkN (vB σ) (hB σ) b9 (nB σ)) i k)), (3, .int 1), (4, .int (nI k))]) hx hb dX8_bathByTemperature_75 hl (k := 6) rfl (m_inc _) (by decide) rfl (fun ls hl => ?_)
                    refine lv_goto (tgt := 36) hx hb dX8_bathByTemperature_78 (by decide) ?_
                    have e_27 : rkN (vB σ) (hB σ) k (j9 + 1) = (rkN (vB σ) (hB σ) k j9) + 1 := (by simp only [rkN, Int32.add_zero]; rw [if_pos b_26])
                    exact ih (j9 + 1) (by omega) H locs hP (m_D2 hD) hS ls (by rw [e_27]; exact lv_sub hl [2, 3, 4, 5, 6, 1, 0] rfl)
          exact L_9 (nB σ) 0 (by omega) _ _ hP (m_D2 hD) hS ls (lv_sub hl [2, 3, 4, 5, 6, 1, 0] rfl)
  exact L_1 (nB σ) 0 (by omega) _ _ hP (m_D2 hD) hS ls (lv_sub hl [3, 4, 2, 1, 0] rfl)

set_option maxRecDepth 100000 in
set_option maxHeartbeats 1000000 in
theorem c_X8_bathByTemperature_no (l : Launch) (G : va_G) (cy : Nat → ClassId) (am aS aBf aAs aSv aPa aOu aTx aCo K OM LN PO CM : Nat) (iS th iw ea fa : Int32) (σ : St) (i : Int32) (ho : Ok σ) (hF : ¬ inI i (nI (nB σ)) = true) : WC l yX8_bathByTemperature wsX8_bathByTemperature { frames := 2, cells := 0, slots := 0, locals := 43 } G (PB G cy [(am, .inr (12, [.ref aS, .ref aBf, .ref aAs, .ref aSv, .int iS, .ref aPa, .int (nI K), .int th, .ref aOu, .int (nI OM), .ref aTx, .int (nI LN), .int (nI PO), .int iw, .int ea, .int fa, .ref aCo, .int (nI CM)])), (aS, .inl (cy 2, 89, .inl (encS σ)))]) [.ref am, .int i] [(am, .inr (12, [.ref aS, .ref aBf, .ref aAs, .ref aSv, .int iS, .ref aPa, .int (nI K), .int th, .ref aOu, .int (nI OM), .ref aTx, .int (nI LN), .int (nI PO), .int iw, .int ea, .int fa, .ref aCo, .int (nI CM)])), (aS, .inl (cy 2, 89, .inl (encS σ)))] [(am, .inr (12, [.ref aS, .ref aBf, .ref aAs, .ref aSv, .int iS, .ref aPa, .int (nI K), .int 1, .ref aOu, .int (nI OM), .ref aTx, .int (nI LN), .int (nI PO), .int iw, .int ea, .int fa, .ref aCo, .int (nI CM)])), (aS, .inl (cy 2, 89, .inl (encS σ)))] (some (.int 0)) := by
  refine WC.ofW (cc := cX8_bathByTemperature) (maxL := 7) (ret := (some .int)) (by decide) rfl (Nat.le_of_ble_eq_true rfl) ?_
  intro p e s m below meth c S9 hr hlocks hPB hD hS ls hl
  obtain ⟨hx, hb, hml, hown, hts⟩ := id S9
  obtain ⟨hP, hK⟩ := hPB
  have hl : lv_has ls 7 [(0, .ref am), (1, .int i)] := hl
  have hP : va_P G vwCl [(am, .inr (12, [.ref aS, .ref aBf, .ref aAs, .ref aSv, .int iS, .ref aPa, .int (nI K), .int th, .ref aOu, .int (nI OM), .ref aTx, .int (nI LN), .int (nI PO), .int iw, .int ea, .int fa, .ref aCo, .int (nI CM)])), (aS, .inl (cy 2, 89, .inl (encT (nB σ) (vB σ) (hB σ) (pB σ) (mB σ) (nD σ) (bD σ) (lD σ) (uD σ) (qD σ) (wD σ) (nE σ) (kE σ) (bE σ) (lE σ) (tT σ) (dT σ) (aT σ) (rT σ) (hT σ) (xT σ))))] s.heap := hP
  have hD0 := hD
  have hD : va_D (wA [(am, .inr (12, [.ref aS, .ref aBf, .ref aAs, .ref aSv, .int iS, .ref aPa, .int (nI K), .int th, .ref aOu, .int (nI OM), .ref aTx, .int (nI LN), .int (nI PO), .int iw, .int ea, .int fa, .ref aCo, .int (nI CM)])), (aS, .inl (cy 2, 89, .inl (encS σ)))]) [(am, .inr (12, [.ref aS, .ref aBf, .ref aAs, .ref aSv, .int iS, .ref aPa, .int (nI K), .int th, .ref aOu, .int (nI OM), .ref aTx, .int (nI LN), .int (nI PO), .int iw, .int ea, .int fa, .ref aCo, .int (nI CM)])), (aS, .inl (cy 2, 89, .inl (encT (nB σ) (vB σ) (hB σ) (pB σ) (mB σ) (nD σ) (bD σ) (lD σ) (uD σ) (qD σ) (wD σ) (nE σ) (kE σ) (bE σ) (lE σ) (tT σ) (dT σ) (aT σ) (rT σ) (hT σ) (xT σ))))] := hD
  have hi12 : ∀ w ∈ wsX80, w ∈ wsX8_bathByTemperature := by decide +kernel
  have hf9 := hts (.fieldLink RX8 9 "BathLeagueModel" "s" "[I") (by decide +kernel)
  have hN0 := ho.1
  have hM0 := ho.2.1
  have hE0 := ho.2.2.1
  refine lv_iconst (v := 0) hx hb dX8_bathByTemperature_0 (by decide) ?_
  refine lv_istore_n (lv' := [(2, .int 0), (0, .ref am), (1, .int i)]) hx hb dX8_bathByTemperature_1 rfl hl (by decide) rfl (fun ls hl => ?_)
  refine lv_aload_n hx hb dX8_bathByTemperature_2 rfl (lv_at hl 1 rfl) ?_
  refine lv_aload_n hx hb dX8_bathByTemperature_3 rfl (lv_at hl 1 rfl) ?_
  refine lv_iload_n hx hb dX8_bathByTemperature_4 rfl (lv_at hl 2 rfl) ?_
  refine c_roVi S9 (c_X8_isBath l G cy am aS aBf aAs aSv aPa aOu aTx aCo K OM LN PO CM iS th iw ea fa (nB σ) (vB σ) (hB σ) (pB σ) (mB σ) (nD σ) (bD σ) (lD σ) (uD σ) (qD σ) (wD σ) (nE σ) (kE σ) (bE σ) (lE σ) (tT σ) (dT σ) (aT σ) (rT σ) (hT σ) (xT σ) i ho.1) (cwV 1 hts gX8_bathByTemperature_X8_isBath rfl rfl rfl (by decide +kernel) ⟨Nat.le_of_ble_eq_true rfl, Nat.le_of_ble_eq_true rfl⟩) PB.blind (va_recv hK.1 hP (ci := 12) (q0 := 0) rfl rfl) (PB.at hK (m_Ppart hP [0, 1] rfl)) rfl hl.1 rfl (Nat.le_of_ble_eq_true rfl) ⟨Nat.zero_le _, Nat.zero_le _⟩ dX8_bathByTemperature_5 ?_
  refine lv_t0 (if_neg hF) ?_
  refine c_wcVi (ws' := [(am, .inr (12, [.ref aS, .ref aBf, .ref aAs, .ref aSv, .int iS, .ref aPa, .int (nI K), .int 1, .ref aOu, .int (nI OM), .ref aTx, .int (nI LN), .int (nI PO), .int iw, .int ea, .int fa, .ref aCo, .int (nI CM)])), (aS, .inl (cy 2, 89, .inl (encT (nB σ) (vB σ) (hB σ) (pB σ) (mB σ) (nD σ) (bD σ) (lD σ) (uD σ) (qD σ) (wD σ) (nE σ) (kE σ) (bE σ) (lE σ) (tT σ) (dT σ) (aT σ) (rT σ) (hT σ) (xT σ))))]) S9 (c_X8_isThere_0 l G cy am aS aBf aAs aSv aPa aOu aTx aCo K OM LN PO CM iS th iw ea fa (nB σ) (vB σ) (hB σ) (pB σ) (mB σ) (nD σ) (bD σ) (lD σ) (uD σ) (qD σ) (wD σ) (nE σ) (kE σ) (bE σ) (lE σ) (tT σ) (dT σ) (aT σ) (rT σ) (hT σ) (xT σ)) (cwV 1 hts gX8_bathByTemperature_X8_isThere rfl rfl rfl (by decide +kernel) ⟨Nat.le_of_ble_eq_true rfl, Nat.le_of_ble_eq_true rfl⟩) PB.blind (va_recv hK.1 hP (ci := 12) (q0 := 0) rfl rfl) (PB.at hK (m_Ppart hP [0, 1] rfl)) hP hD hS [0, 1] rfl rfl m_f2 rfl rfl hl.1 rfl (Nat.le_of_ble_eq_true rfl) ⟨Nat.zero_le _, Nat.zero_le _⟩ dX8_bathByTemperature_8 (fun H locs hP hD hS => ?_)
  refine lv_istore_n (lv' := [(3, .int 0), (2, .int 0), (0, .ref am), (1, .int i)]) hx hb dX8_bathByTemperature_11 rfl hl (by decide) rfl (fun ls hl => ?_)
  refine lv_iconst (v := 0) hx hb dX8_bathByTemperature_12 (by decide) ?_
  refine lv_istore (lv' := [(4, .int 0), (3, .int 0), (2, .int 0), (0, .ref am), (1, .int i)]) hx hb dX8_bathByTemperature_13 hl (by decide) rfl (fun ls hl => ?_)
  refine lv_iload hx hb dX8_bathByTemperature_15 (lv_at hl 0 rfl) ?_
  refine lv_aload_n hx hb dX8_bathByTemperature_17 rfl (lv_at hl 3 rfl) ?_
  refine va_get (D := G) (ci := 12) (v := .ref aS) (C := RX8) (T := TX8) (N := 18) hx hb hts hi12 hown hK.1 hP 0 rfl rfl 0 (by decide) hf9 (fun _ h9 => h9) rfl dX8_bathByTemperature_18 ?_
  refine lv_iconst (v := 0) hx hb dX8_bathByTemperature_21 (by decide) ?_
  refine m_iald hx hb hK hP 1 (k := 0) rfl rfl (by omega) (Nat.le_of_ble_eq_true rfl) dX8_bathByTemperature_22 ?_
  refine lv_t0 (encR_0 rfl) ?_
  refine lv_icmp_ge (tgt := 100) hx hb dX8_bathByTemperature_23 (by decide) (fun c_1 => ?_) (fun c_1 => ?_)
  · have k_2 : (nB σ) ≤ 0 := (m_leN (a := (nB σ)) (b := 0) rfl rfl (by omega) (by omega)).mp c_1
    have k_2' : ¬ (0 < (nB σ)) := by omega
    refine lv_iload_n hx hb dX8_bathByTemperature_100 rfl (lv_at hl 2 rfl) ?_
    exact wc_iret hx hb hr hlocks hP hS rfl dX8_bathByTemperature_101
  · have k_3 : ¬ ((nB σ) ≤ 0) := fun z => c_1 ((m_leN (a := (nB σ)) (b := 0) rfl rfl (by omega) (by omega)).mpr z)
    have k_3' : 0 < (nB σ) := by omega
    refine lv_iload_n hx hb dX8_bathByTemperature_26 rfl (lv_at hl 1 rfl) ?_
    refine lv_if_eq (tgt := 100) hx hb dX8_bathByTemperature_27 (by decide) (fun c_4 => ?_) (fun c_4 => ?_)
    · refine lv_iload_n hx hb dX8_bathByTemperature_100 rfl (lv_at hl 2 rfl) ?_
      exact wc_iret hx hb hr hlocks hP hS rfl dX8_bathByTemperature_101
    · exact absurd c_4 (by decide)

set_option maxRecDepth 100000 in
set_option maxHeartbeats 1000000 in
theorem c_X8_duckByQuacks_ok (l : Launch) (G : va_G) (cy : Nat → ClassId) (am aS aBf aAs aSv aPa aOu aTx aCo K OM LN PO CM : Nat) (iS th iw ea fa : Int32) (σ : St) (i : Int32) (ho : Ok σ) (hF : inI i (nI (nD σ)) = true) (hqb : ∀ j, j < 6 → 0 ≤ (qD σ j).toInt ∧ (qD σ j).toInt ≤ 1000000) : WC l yX8_duckByQuacks wsX8_duckByQuacks { frames := 3, cells := 0, slots := 0, locals := 65 } G (PB G cy [(am, .inr (12, [.ref aS, .ref aBf, .ref aAs, .ref aSv, .int iS, .ref aPa, .int (nI K), .int th, .ref aOu, .int (nI OM), .ref aTx, .int (nI LN), .int (nI PO), .int iw, .int ea, .int fa, .ref aCo, .int (nI CM)])), (aS, .inl (cy 2, 89, .inl (encS σ)))]) [.ref am, .int i] [(am, .inr (12, [.ref aS, .ref aBf, .ref aAs, .ref aSv, .int iS, .ref aPa, .int (nI K), .int th, .ref aOu, .int (nI OM), .ref aTx, .int (nI LN), .int (nI PO), .int iw, .int ea, .int fa, .ref aCo, .int (nI CM)])), (aS, .inl (cy 2, 89, .inl (encS σ)))] [(am, .inr (12, [.ref aS, .ref aBf, .ref aAs, .ref aSv, .int iS, .ref aPa, .int (nI K), .int 0, .ref aOu, .int (nI OM), .ref aTx, .int (nI LN), .int (nI PO), .int iw, .int ea, .int fa, .ref aCo, .int (nI CM)])), (aS, .inl (cy 2, 89, .inl (encS σ)))] (some (.int (lasF (fun b9 => rkDN (plz (vB σ) (hB σ) (bD σ) (lD σ) (uD σ)) (qD σ) b9 (nD σ)) i (nD σ)))) := by
  refine WC.ofW (cc := cX8_duckByQuacks) (maxL := 8) (ret := (some .int)) (by decide) rfl (Nat.le_of_ble_eq_true rfl) ?_
  intro p e s m below meth c S9 hr hlocks hPB hD hS ls hl
  obtain ⟨hx, hb, hml, hown, hts⟩ := id S9
  obtain ⟨hP, hK⟩ := hPB
  have hl : lv_has ls 8 [(0, .ref am), (1, .int i)] := hl
  have hP : va_P G vwCl [(am, .inr (12, [.ref aS, .ref aBf, .ref aAs, .ref aSv, .int iS, .ref aPa, .int (nI K), .int th, .ref aOu, .int (nI OM), .ref aTx, .int (nI LN), .int (nI PO), .int iw, .int ea, .int fa, .ref aCo, .int (nI CM)])), (aS, .inl (cy 2, 89, .inl (encT (nB σ) (vB σ) (hB σ) (pB σ) (mB σ) (nD σ) (bD σ) (lD σ) (uD σ) (qD σ) (wD σ) (nE σ) (kE σ) (bE σ) (lE σ) (tT σ) (dT σ) (aT σ) (rT σ) (hT σ) (xT σ))))] s.heap := hP
  have hD0 := hD
  have hD : va_D (wA [(am, .inr (12, [.ref aS, .ref aBf, .ref aAs, .ref aSv, .int iS, .ref aPa, .int (nI K), .int th, .ref aOu, .int (nI OM), .ref aTx, .int (nI LN), .int (nI PO), .int iw, .int ea, .int fa, .ref aCo, .int (nI CM)])), (aS, .inl (cy 2, 89, .inl (encS σ)))]) [(am, .inr (12, [.ref aS, .ref aBf, .ref aAs, .ref aSv, .int iS, .ref aPa, .int (nI K), .int th, .ref aOu, .int (nI OM), .ref aTx, .int (nI LN), .int (nI PO), .int iw, .int ea, .int fa, .ref aCo, .int (nI CM)])), (aS, .inl (cy 2, 89, .inl (encT (nB σ) (vB σ) (hB σ) (pB σ) (mB σ) (nD σ) (bD σ) (lD σ) (uD σ) (qD σ) (wD σ) (nE σ) (kE σ) (bE σ) (lE σ) (tT σ) (dT σ) (aT σ) (rT σ) (hT σ) (xT σ))))] := hD
  have hi12 : ∀ w ∈ wsX80, w ∈ wsX8_duckByQuacks := by decide +kernel
  have hf9 := hts (.fieldLink RX8 9 "BathLeagueModel" "s" "[I") (by decide +kernel)
  have hN0 := ho.1
  have hM0 := ho.2.1
  have hE0 := ho.2.2.1
  refine lv_iconst (v := 0) hx hb dX8_duckByQuacks_0 (by decide) ?_
  refine lv_istore_n (lv' := [(2, .int 0), (0, .ref am), (1, .int i)]) hx hb dX8_duckByQuacks_1 rfl hl (by decide) rfl (fun ls hl => ?_)
  refine lv_aload_n hx hb dX8_duckByQuacks_2 rfl (lv_at hl 1 rfl) ?_
  refine lv_aload_n hx hb dX8_duckByQuacks_3 rfl (lv_at hl 1 rfl) ?_
  refine lv_iload_n hx hb dX8_duckByQuacks_4 rfl (lv_at hl 2 rfl) ?_
  refine c_roVi S9 (c_X8_isDuck l G cy am aS aBf aAs aSv aPa aOu aTx aCo K OM LN PO CM iS th iw ea fa (nB σ) (vB σ) (hB σ) (pB σ) (mB σ) (nD σ) (bD σ) (lD σ) (uD σ) (qD σ) (wD σ) (nE σ) (kE σ) (bE σ) (lE σ) (tT σ) (dT σ) (aT σ) (rT σ) (hT σ) (xT σ) i ho.2.1) (cwV 1 hts gX8_duckByQuacks_X8_isDuck rfl rfl rfl (by decide +kernel) ⟨Nat.le_of_ble_eq_true rfl, Nat.le_of_ble_eq_true rfl⟩) PB.blind (va_recv hK.1 hP (ci := 12) (q0 := 0) rfl rfl) (PB.at hK (m_Ppart hP [0, 1] rfl)) rfl hl.1 rfl (Nat.le_of_ble_eq_true rfl) ⟨Nat.zero_le _, Nat.zero_le _⟩ dX8_duckByQuacks_5 ?_
  refine lv_t0 (if_pos hF) ?_
  refine c_wcVi (ws' := [(am, .inr (12, [.ref aS, .ref aBf, .ref aAs, .ref aSv, .int iS, .ref aPa, .int (nI K), .int 0, .ref aOu, .int (nI OM), .ref aTx, .int (nI LN), .int (nI PO), .int iw, .int ea, .int fa, .ref aCo, .int (nI CM)])), (aS, .inl (cy 2, 89, .inl (encT (nB σ) (vB σ) (hB σ) (pB σ) (mB σ) (nD σ) (bD σ) (lD σ) (uD σ) (qD σ) (wD σ) (nE σ) (kE σ) (bE σ) (lE σ) (tT σ) (dT σ) (aT σ) (rT σ) (hT σ) (xT σ))))]) S9 (c_X8_isThere_1 l G cy am aS aBf aAs aSv aPa aOu aTx aCo K OM LN PO CM iS th iw ea fa (nB σ) (vB σ) (hB σ) (pB σ) (mB σ) (nD σ) (bD σ) (lD σ) (uD σ) (qD σ) (wD σ) (nE σ) (kE σ) (bE σ) (lE σ) (tT σ) (dT σ) (aT σ) (rT σ) (hT σ) (xT σ)) (cwV 1 hts gX8_duckByQuacks_X8_isThere rfl rfl rfl (by decide +kernel) ⟨Nat.le_of_ble_eq_true rfl, Nat.le_of_ble_eq_true rfl⟩) PB.blind (va_recv hK.1 hP (ci := 12) (q0 := 0) rfl rfl) (PB.at hK (m_Ppart hP [0, 1] rfl)) hP hD hS [0, 1] rfl rfl m_f2 rfl rfl hl.1 rfl (Nat.le_of_ble_eq_true rfl) ⟨Nat.zero_le _, Nat.zero_le _⟩ dX8_duckByQuacks_8 (fun H locs hP hD hS => ?_)
  refine lv_istore_n (lv' := [(3, .int 1), (2, .int 0), (0, .ref am), (1, .int i)]) hx hb dX8_duckByQuacks_11 rfl hl (by decide) rfl (fun ls hl => ?_)
  refine lv_iconst (v := 0) hx hb dX8_duckByQuacks_12 (by decide) ?_
  refine lv_istore (lv' := [(4, .int 0), (3, .int 1), (2, .int 0), (0, .ref am), (1, .int i)]) hx hb dX8_duckByQuacks_13 hl (by decide) rfl (fun ls hl => ?_)
  have L_1 : ∀ (d k : Nat), k + d = nD σ → ∀ (H : Heap) (locs : List Loc), va_P G vwCl [(am, .inr (12, [.ref aS, .ref aBf, .ref aAs, .ref aSv, .int iS, .ref aPa, .int (nI K), .int 0, .ref aOu, .int (nI OM), .ref aTx, .int (nI LN), .int (nI PO), .int iw, .int ea, .int fa, .ref aCo, .int (nI CM)])), (aS, .inl (cy 2, 89, .inl (encS σ)))] H → va_D (wA [(am, .inr (12, [.ref aS, .ref aBf, .ref aAs, .ref aSv, .int iS, .ref aPa, .int (nI K), .int th, .ref aOu, .int (nI OM), .ref aTx, .int (nI LN), .int (nI PO), .int iw, .int ea, .int fa, .ref aCo, .int (nI CM)])), (aS, .inl (cy 2, 89, .inl (encS σ)))]) [(am, .inr (12, [.ref aS, .ref aBf, .ref aAs, .ref aSv, .int iS, .ref aPa, .int (nI K), .int 0, .ref aOu, .int (nI OM), .ref aTx, .int (nI LN), .int (nI PO), .int iw, .int ea, .int fa, .ref aCo, .int (nI CM)])), (aS, .inl (cy 2, 89, .inl (encS σ)))] → va_S (wA [(am, .inr (12, [.ref aS, .ref aBf, .ref aAs, .ref aSv, .int iS, .ref aPa, .int (nI K), .int th, .ref aOu, .int (nI OM), .ref aTx, .int (nI LN), .int (nI PO), .int iw, .int ea, .int fa, .ref aCo, .int (nI CM)])), (aS, .inl (cy 2, 89, .inl (encS σ)))]) s.heap H locs → ∀ ls : Array Slot, lv_has ls 8 [(0, .ref am), (1, .int i), (2, .int (lasF (fun b9 => rkDN (plz (vB σ) (hB σ) (bD σ) (lD σ) (uD σ)) (qD σ) b9 (nD σ)) i k)), (3, .int 1), (4, .int (nI k))] → W p l e ({ frames := 3, cells := 0, slots := 0, locals := 65 } : Room) s m ([.ref am, .int i] : List Value).toArray below meth c H locs 0 0 (wcZ below ([.ref am, .int i] : List Value).toArray s G [(am, .inr (12, [.ref aS, .ref aBf, .ref aAs, .ref aSv, .int iS, .ref aPa, .int (nI K), .int th, .ref aOu, .int (nI OM), .ref aTx, .int (nI LN), .int (nI PO), .int iw, .int ea, .int fa, .ref aCo, .int (nI CM)])), (aS, .inl (cy 2, 89, .inl (encS σ)))] [(am, .inr (12, [.ref aS, .ref aBf, .ref aAs, .ref aSv, .int iS, .ref aPa, .int (nI K), .int 0, .ref aOu, .int (nI OM), .ref aTx, .int (nI LN), .int (nI PO), .int iw, .int ea, .int fa, .ref aCo, .int (nI CM)])), (aS, .inl (cy 2, 89, .inl (encS σ)))] (some (.int (lasF (fun b9 => rkDN (plz (vB σ) (hB σ) (bD σ) (lD σ) (uD σ)) (qD σ) b9 (nD σ)) i (nD σ))))) (F0 m 15 ls []) := by
    intro d
    induction d with
    | zero =>
      intro k hkk H locs hP hD hS ls hl
      have hP : va_P G vwCl [(am, .inr (12, [.ref aS, .ref aBf, .ref aAs, .ref aSv, .int iS, .ref aPa, .int (nI K), .int 0, .ref aOu, .int (nI OM), .ref aTx, .int (nI LN), .int (nI PO), .int iw, .int ea, .int fa, .ref aCo, .int (nI CM)])), (aS, .inl (cy 2, 89, .inl (encT (nB σ) (vB σ) (hB σ) (pB σ) (mB σ) (nD σ) (bD σ) (lD σ) (uD σ) (qD σ) (wD σ) (nE σ) (kE σ) (bE σ) (lE σ) (tT σ) (dT σ) (aT σ) (rT σ) (hT σ) (xT σ))))] H := hP
      have hD : va_D (wA [(am, .inr (12, [.ref aS, .ref aBf, .ref aAs, .ref aSv, .int iS, .ref aPa, .int (nI K), .int th, .ref aOu, .int (nI OM), .ref aTx, .int (nI LN), .int (nI PO), .int iw, .int ea, .int fa, .ref aCo, .int (nI CM)])), (aS, .inl (cy 2, 89, .inl (encS σ)))]) [(am, .inr (12, [.ref aS, .ref aBf, .ref aAs, .ref aSv, .int iS, .ref aPa, .int (nI K), .int 0, .ref aOu, .int (nI OM), .ref aTx, .int (nI LN), .int (nI PO), .int iw, .int ea, .int fa, .ref aCo, .int (nI CM)])), (aS, .inl (cy 2, 89, .inl (encT (nB σ) (vB σ) (hB σ) (pB σ) (mB σ) (nD σ) (bD σ) (lD σ) (uD σ) (qD σ) (wD σ) (nE σ) (kE σ) (bE σ) (lE σ) (tT σ) (dT σ) (aT σ) (rT σ) (hT σ) (xT σ))))] := hD
      refine lv_iload hx hb dX8_duckByQuacks_15 (lv_at hl 4 rfl) ?_
      refine lv_aload_n hx hb dX8_duckByQuacks_17 rfl (lv_at hl 0 rfl) ?_
      refine va_get (D := G) (ci := 12) (v := .ref aS) (C := RX8) (T := TX8) (N := 18) hx hb hts hi12 hown hK.1 hP 0 rfl rfl 0 (by decide) hf9 (fun _ h9 => h9) rfl dX8_duckByQuacks_18 ?_
      refine lv_iconst (v := 1) hx hb dX8_duckByQuacks_21 (by decide) ?_
      refine m_iald hx hb hK hP 1 (k := 1) rfl rfl (by omega) (Nat.le_of_ble_eq_true rfl) dX8_duckByQuacks_22 ?_
      refine lv_t0 (encR_1 rfl) ?_
      refine lv_icmp_ge (tgt := 148) hx hb dX8_duckByQuacks_23 (by decide) (fun c_2 => ?_) (fun c_2 => ?_)
      · have k_3 : (nD σ) ≤ k := (m_leN (a := (nD σ)) (b := k) rfl rfl (by omega) (by omega)).mp c_2
        have k_3' : ¬ (k < (nD σ)) := by omega
        refine lv_iload_n hx hb dX8_duckByQuacks_148 rfl (lv_at hl 2 rfl) ?_
        exact wc_iret hx hb hr hlocks hP hS (by rw [show nD σ = k by omega]) dX8_duckByQuacks_149
      · have k_4 : ¬ ((nD σ) ≤ k) := fun z => c_2 ((m_leN (a := (nD σ)) (b := k) rfl rfl (by omega) (by omega)).mpr z)
        have k_4' : k < (nD σ) := by omega
        exfalso; omega
    | succ d ih =>
      intro k hkk H locs hP hD hS ls hl
      have hP : va_P G vwCl [(am, .inr (12, [.ref aS, .ref aBf, .ref aAs, .ref aSv, .int iS, .ref aPa, .int (nI K), .int 0, .ref aOu, .int (nI OM), .ref aTx, .int (nI LN), .int (nI PO), .int iw, .int ea, .int fa, .ref aCo, .int (nI CM)])), (aS, .inl (cy 2, 89, .inl (encT (nB σ) (vB σ) (hB σ) (pB σ) (mB σ) (nD σ) (bD σ) (lD σ) (uD σ) (qD σ) (wD σ) (nE σ) (kE σ) (bE σ) (lE σ) (tT σ) (dT σ) (aT σ) (rT σ) (hT σ) (xT σ))))] H := hP
      have hD : va_D (wA [(am, .inr (12, [.ref aS, .ref aBf, .ref aAs, .ref aSv, .int iS, .ref aPa, .int (nI K), .int th, .ref aOu, .int (nI OM), .ref aTx, .int (nI LN), .int (nI PO), .int iw, .int ea, .int fa, .ref aCo, .int (nI CM)])), (aS, .inl (cy 2, 89, .inl (encS σ)))]) [(am, .inr (12, [.ref aS, .ref aBf, .ref aAs, .ref aSv, .int iS, .ref aPa, .int (nI K), .int 0, .ref aOu, .int (nI OM), .ref aTx, .int (nI LN), .int (nI PO), .int iw, .int ea, .int fa, .ref aCo, .int (nI CM)])), (aS, .inl (cy 2, 89, .inl (encT (nB σ) (vB σ) (hB σ) (pB σ) (mB σ) (nD σ) (bD σ) (lD σ) (uD σ) (qD σ) (wD σ) (nE σ) (kE σ) (bE σ) (lE σ) (tT σ) (dT σ) (aT σ) (rT σ) (hT σ) (xT σ))))] := hD
      refine lv_iload hx hb dX8_duckByQuacks_15 (lv_at hl 4 rfl) ?_
      refine lv_aload_n hx hb dX8_duckByQuacks_17 rfl (lv_at hl 0 rfl) ?_
      refine va_get (D := G) (ci := 12) (v := .ref aS) (C := RX8) (T := TX8) (N := 18) hx hb hts hi12 hown hK.1 hP 0 rfl rfl 0 (by decide) hf9 (fun _ h9 => h9) rfl dX8_duckByQuacks_18 ?_
      refine lv_iconst (v := 1) hx hb dX8_duckByQuacks_21 (by decide) ?_
      refine m_iald hx hb hK hP 1 (k := 1) rfl rfl (by omega) (Nat.le_of_ble_eq_true rfl) dX8_duckByQuacks_22 ?_
      refine lv_t0 (encR_1 rfl) ?_
      refine lv_icmp_ge (tgt := 148) hx hb dX8_duckByQuacks_23 (by decide) (fun c_5 => ?_) (fun c_5 => ?_)
      · have k_6 : (nD σ) ≤ k := (m_leN (a := (nD σ)) (b := k) rfl rfl (by omega) (by omega)).mp c_5
        have k_6' : ¬ (k < (nD σ)) := by omega
        exfalso; omega
      · have k_7 : ¬ ((nD σ) ≤ k) := fun z => c_5 ((m_leN (a := (nD σ)) (b := k) rfl rfl (by omega) (by omega)).mpr z)
        have k_7' : k < (nD σ) := by omega
        refine lv_iload_n hx hb dX8_duckByQuacks_26 rfl (lv_at hl 3 rfl) ?_
        refine lv_if_eq (tgt := 148) hx hb dX8_duckByQuacks_27 (by decide) (fun c_8 => ?_) (fun c_8 => ?_)
        · exact absurd c_8 (by decide)
        · refine lv_iconst (v := 0) hx hb dX8_duckByQuacks_30 (by decide) ?_
          refine lv_istore (lv' := [(5, .int 0), (0, .ref am), (1, .int i), (2, .int (lasF (fun b9 => rkDN (plz (vB σ) (hB σ) (bD σ) (lD σ) (uD σ)) (qD σ) b9 (nD σ)) i k)), (3, .int 1), (4, .int (nI k))]) hx hb dX8_duckByQuacks_31 hl (by decide) rfl (fun ls hl => ?_)
          refine lv_iconst (v := 0) hx hb dX8_duckByQuacks_33 (by decide) ?_
          refine lv_istore (lv' := [(6, .int 0), (5, .int 0), (0, .ref am), (1, .int i), (2, .int (lasF (fun b9 => rkDN (plz (vB σ) (hB σ) (bD σ) (lD σ) (uD σ)) (qD σ) b9 (nD σ)) i k)), (3, .int 1), (4, .int (nI k))]) hx hb dX8_duckByQuacks_34 hl (by decide) rfl (fun ls hl => ?_)
          have L_9 : ∀ (d j9 : Nat), j9 + d = nD σ → ∀ (H : Heap) (locs : List Loc), va_P G vwCl [(am, .inr (12, [.ref aS, .ref aBf, .ref aAs, .ref aSv, .int iS, .ref aPa, .int (nI K), .int 0, .ref aOu, .int (nI OM), .ref aTx, .int (nI LN), .int (nI PO), .int iw, .int ea, .int fa, .ref aCo, .int (nI CM)])), (aS, .inl (cy 2, 89, .inl (encS σ)))] H → va_D (wA [(am, .inr (12, [.ref aS, .ref aBf, .ref aAs, .ref aSv, .int iS, .ref aPa, .int (nI K), .int th, .ref aOu, .int (nI OM), .ref aTx, .int (nI LN), .int (nI PO), .int iw, .int ea, .int fa, .ref aCo, .int (nI CM)])), (aS, .inl (cy 2, 89, .inl (encS σ)))]) [(am, .inr (12, [.ref aS, .ref aBf, .ref aAs, .ref aSv, .int iS, .ref aPa, .int (nI K), .int 0, .ref aOu, .int (nI OM), .ref aTx, .int (nI LN), .int (nI PO), .int iw, .int ea, .int fa, .ref aCo, .int (nI CM)])), (aS, .inl (cy 2, 89, .inl (encS σ)))] → va_S (wA [(am, .inr (12, [.ref aS, .ref aBf, .ref aAs, .ref aSv, .int iS, .ref aPa, .int (nI K), .int th, .ref aOu, .int (nI OM), .ref aTx, .int (nI LN), .int (nI PO), .int iw, .int ea, .int fa, .ref aCo, .int (nI CM)])), (aS, .inl (cy 2, 89, .inl (encS σ)))]) s.heap H locs → ∀ ls : Array Slot, lv_has ls 8 [(0, .ref am), (1, .int i), (2, .int (lasF (fun b9 => rkDN (plz (vB σ) (hB σ) (bD σ) (lD σ) (uD σ)) (qD σ) b9 (nD σ)) i k)), (3, .int 1), (4, .int (nI k)), (5, .int (rkDN (plz (vB σ) (hB σ) (bD σ) (lD σ) (uD σ)) (qD σ) k j9)), (6, .int (nI j9))] → W p l e ({ frames := 3, cells := 0, slots := 0, locals := 65 } : Room) s m ([.ref am, .int i] : List Value).toArray below meth c H locs 0 0 (wcZ below ([.ref am, .int i] : List Value).toArray s G [(am, .inr (12, [.ref aS, .ref aBf, .ref aAs, .ref aSv, .int iS, .ref aPa, .int (nI K), .int th, .ref aOu, .int (nI OM), .ref aTx, .int (nI LN), .int (nI PO), .int iw, .int ea, .int fa, .ref aCo, .int (nI CM)])), (aS, .inl (cy 2, 89, .inl (encS σ)))] [(am, .inr (12, [.ref aS, .ref aBf, .ref aAs, .ref aSv, .int iS, .ref aPa, .int (nI K), .int 0, .ref aOu, .int (nI OM), .ref aTx, .int (nI LN), .int (nI PO), .int iw, .int ea, .int fa, .ref aCo, .int (nI CM)])), (aS, .inl (cy 2, 89, .inl (encS σ)))] (some (.int (lasF (fun b9 => rkDN (plz (vB σ) (hB σ) (bD σ) (lD σ) (uD σ)) (qD σ) b9 (nD σ)) i (nD σ))))) (F0 m 36 ls []) := by
            intro d
            induction d with
            | zero =>
              intro j9 hkj9 H locs hP hD hS ls hl
              have hP : va_P G vwCl [(am, .inr (12, [.ref aS, .ref aBf, .ref aAs, .ref aSv, .int iS, .ref aPa, .int (nI K), .int 0, .ref aOu, .int (nI OM), .ref aTx, .int (nI LN), .int (nI PO), .int iw, .int ea, .int fa, .ref aCo, .int (nI CM)])), (aS, .inl (cy 2, 89, .inl (encT (nB σ) (vB σ) (hB σ) (pB σ) (mB σ) (nD σ) (bD σ) (lD σ) (uD σ) (qD σ) (wD σ) (nE σ) (kE σ) (bE σ) (lE σ) (tT σ) (dT σ) (aT σ) (rT σ) (hT σ) (xT σ))))] H := hP
              have hD : va_D (wA [(am, .inr (12, [.ref aS, .ref aBf, .ref aAs, .ref aSv, .int iS, .ref aPa, .int (nI K), .int th, .ref aOu, .int (nI OM), .ref aTx, .int (nI LN), .int (nI PO), .int iw, .int ea, .int fa, .ref aCo, .int (nI CM)])), (aS, .inl (cy 2, 89, .inl (encS σ)))]) [(am, .inr (12, [.ref aS, .ref aBf, .ref aAs, .ref aSv, .int iS, .ref aPa, .int (nI K), .int 0, .ref aOu, .int (nI OM), .ref aTx, .int (nI LN), .int (nI PO), .int iw, .int ea, .int fa, .ref aCo, .int (nI CM)])), (aS, .inl (cy 2, 89, .inl (encT (nB σ) (vB σ) (hB σ) (pB σ) (mB σ) (nD σ) (bD σ) (lD σ) (uD σ) (qD σ) (wD σ) (nE σ) (kE σ) (bE σ) (lE σ) (tT σ) (dT σ) (aT σ) (rT σ) (hT σ) (xT σ))))] := hD
              obtain rfl : j9 = nD σ := by omega
              have hl : lv_has ls 8 [(0, .ref am), (1, .int i), (2, .int (lasF (fun b9 => rkDN (plz (vB σ) (hB σ) (bD σ) (lD σ) (uD σ)) (qD σ) b9 (nD σ)) i k)), (3, .int 1), (4, .int (nI k)), (5, .int (rkDN (plz (vB σ) (hB σ) (bD σ) (lD σ) (uD σ)) (qD σ) k (nD σ))), (6, .int (nI (nD σ)))] := hl
              refine lv_iload hx hb dX8_duckByQuacks_36 (lv_at hl 6 rfl) ?_
              refine lv_aload_n hx hb dX8_duckByQuacks_38 rfl (lv_at hl 0 rfl) ?_
              refine va_get (D := G) (ci := 12) (v := .ref aS) (C := RX8) (T := TX8) (N := 18) hx hb hts hi12 hown hK.1 hP 0 rfl rfl 0 (by decide) hf9 (fun _ h9 => h9) rfl dX8_duckByQuacks_39 ?_
              refine lv_iconst (v := 1) hx hb dX8_duckByQuacks_42 (by decide) ?_
              refine m_iald hx hb hK hP 1 (k := 1) rfl rfl (by omega) (Nat.le_of_ble_eq_true rfl) dX8_duckByQuacks_43 ?_
              refine lv_t0 (encR_1 rfl) ?_
              refine lv_icmp_ge (tgt := 129) hx hb dX8_duckByQuacks_44 (by decide) (fun c_10 => ?_) (fun c_10 => ?_)
              · have k_11 : (nD σ) ≤ nD σ := (m_leN (a := (nD σ)) (b := nD σ) rfl rfl (by omega) (by omega)).mp c_10
                have k_11' : ¬ (nD σ < (nD σ)) := by omega
                refine lv_iload hx hb dX8_duckByQuacks_129 (lv_at hl 5 rfl) ?_
                refine lv_iload_n hx hb dX8_duckByQuacks_131 rfl (lv_at hl 1 rfl) ?_
                refine lv_icmp_ne (tgt := 140) hx hb dX8_duckByQuacks_132 (by decide) (fun c_12 => ?_) (fun c_12 => ?_)
                · refine lv_iload_n hx hb dX8_duckByQuacks_140 rfl (lv_at hl 2 rfl) ?_
                  refine lv_istore_n (lv' := [(2, .int (lasF (fun b9 => rkDN (plz (vB σ) (hB σ) (bD σ) (lD σ) (uD σ)) (qD σ) b9 (nD σ)) i k)), (0, .ref am), (1, .int i), (3, .int 1), (4, .int (nI k)), (5, .int (rkDN (plz (vB σ) (hB σ) (bD σ) (lD σ) (uD σ)) (qD σ) k (nD σ))), (6, .int (nI (nD σ)))]) hx hb dX8_duckByQuacks_141 rfl hl (by decide) rfl (fun ls hl => ?_)
                  refine lv_iinc (v := nI (k + 1)) (lv' := [(4, .int (nI (k + 1))), (2, .int (lasF (fun b9 => rkDN (plz (vB σ) (hB σ) (bD σ) (lD σ) (uD σ)) (qD σ) b9 (nD σ)) i k)), (0, .ref am), (1, .int i), (3, .int 1), (5, .int (rkDN (plz (vB σ) (hB σ) (bD σ) (lD σ) (uD σ)) (qD σ) k (nD σ))), (6, .int (nI (nD σ)))]) hx hb dX8_duckByQuacks_142 hl (k := 4) rfl (m_inc _) (by decide) rfl (fun ls hl => ?_)
                  refine lv_goto (tgt := 15) hx hb dX8_duckByQuacks_145 (by decide) ?_
                  have e_13 : lasF (fun b9 => rkDN (plz (vB σ) (hB σ) (bD σ) (lD σ) (uD σ)) (qD σ) b9 (nD σ)) i (k + 1) = lasF (fun b9 => rkDN (plz (vB σ) (hB σ) (bD σ) (lD σ) (uD σ)) (qD σ) b9 (nD σ)) i k := (by simp [lasF, c_5, c_10, c_12])
                  exact ih (k + 1) (by omega) H locs hP (m_D2 hD) hS ls (by rw [e_13]; exact lv_sub hl [2, 3, 1, 4, 0] rfl)
                · refine lv_iload hx hb dX8_duckByQuacks_135 (lv_at hl 4 rfl) ?_
                  refine lv_goto (tgt := 141) hx hb dX8_duckByQuacks_137 (by decide) ?_
                  refine lv_istore_n (lv' := [(2, .int (nI k)), (0, .ref am), (1, .int i), (3, .int 1), (4, .int (nI k)), (5, .int (rkDN (plz (vB σ) (hB σ) (bD σ) (lD σ) (uD σ)) (qD σ) k (nD σ))), (6, .int (nI (nD σ)))]) hx hb dX8_duckByQuacks_141 rfl hl (by decide) rfl (fun ls hl => ?_)
                  refine lv_iinc (v := nI (k + 1)) (lv' := [(4, .int (nI (k + 1))), (2, .int (nI k)), (0, .ref am), (1, .int i), (3, .int 1), (5, .int (rkDN (plz (vB σ) (hB σ) (bD σ) (lD σ) (uD σ)) (qD σ) k (nD σ))), (6, .int (nI (nD σ)))]) hx hb dX8_duckByQuacks_142 hl (k := 4) rfl (m_inc _) (by decide) rfl (fun ls hl => ?_)
                  refine lv_goto (tgt := 15) hx hb dX8_duckByQuacks_145 (by decide) ?_
                  have e_14 : lasF (fun b9 => rkDN (plz (vB σ) (hB σ) (bD σ) (lD σ) (uD σ)) (qD σ) b9 (nD σ)) i (k + 1) = nI k := (by simp [lasF, c_5, c_10, c_12])
                  exact ih (k + 1) (by omega) H locs hP (m_D2 hD) hS ls (by rw [e_14]; exact lv_sub hl [2, 3, 1, 4, 0] rfl)
              · have k_15 : ¬ ((nD σ) ≤ nD σ) := fun z => c_10 ((m_leN (a := (nD σ)) (b := nD σ) rfl rfl (by omega) (by omega)).mpr z)
                have k_15' : nD σ < (nD σ) := by omega
                exfalso; omega
            | succ d ih =>
              intro j9 hkj9 H locs hP hD hS ls hl
              have hP : va_P G vwCl [(am, .inr (12, [.ref aS, .ref aBf, .ref aAs, .ref aSv, .int iS, .ref aPa, .int (nI K), .int 0, .ref aOu, .int (nI OM), .ref aTx, .int (nI LN), .int (nI PO), .int iw, .int ea, .int fa, .ref aCo, .int (nI CM)])), (aS, .inl (cy 2, 89, .inl (encT (nB σ) (vB σ) (hB σ) (pB σ) (mB σ) (nD σ) (bD σ) (lD σ) (uD σ) (qD σ) (wD σ) (nE σ) (kE σ) (bE σ) (lE σ) (tT σ) (dT σ) (aT σ) (rT σ) (hT σ) (xT σ))))] H := hP
              have hD : va_D (wA [(am, .inr (12, [.ref aS, .ref aBf, .ref aAs, .ref aSv, .int iS, .ref aPa, .int (nI K), .int th, .ref aOu, .int (nI OM), .ref aTx, .int (nI LN), .int (nI PO), .int iw, .int ea, .int fa, .ref aCo, .int (nI CM)])), (aS, .inl (cy 2, 89, .inl (encS σ)))]) [(am, .inr (12, [.ref aS, .ref aBf, .ref aAs, .ref aSv, .int iS, .ref aPa, .int (nI K), .int 0, .ref aOu, .int (nI OM), .ref aTx, .int (nI LN), .int (nI PO), .int iw, .int ea, .int fa, .ref aCo, .int (nI CM)])), (aS, .inl (cy 2, 89, .inl (encT (nB σ) (vB σ) (hB σ) (pB σ) (mB σ) (nD σ) (bD σ) (lD σ) (uD σ) (qD σ) (wD σ) (nE σ) (kE σ) (bE σ) (lE σ) (tT σ) (dT σ) (aT σ) (rT σ) (hT σ) (xT σ))))] := hD
              refine lv_iload hx hb dX8_duckByQuacks_36 (lv_at hl 6 rfl) ?_
              refine lv_aload_n hx hb dX8_duckByQuacks_38 rfl (lv_at hl 0 rfl) ?_
              refine va_get (D := G) (ci := 12) (v := .ref aS) (C := RX8) (T := TX8) (N := 18) hx hb hts hi12 hown hK.1 hP 0 rfl rfl 0 (by decide) hf9 (fun _ h9 => h9) rfl dX8_duckByQuacks_39 ?_
              refine lv_iconst (v := 1) hx hb dX8_duckByQuacks_42 (by decide) ?_
              refine m_iald hx hb hK hP 1 (k := 1) rfl rfl (by omega) (Nat.le_of_ble_eq_true rfl) dX8_duckByQuacks_43 ?_
              refine lv_t0 (encR_1 rfl) ?_
              refine lv_icmp_ge (tgt := 129) hx hb dX8_duckByQuacks_44 (by decide) (fun c_16 => ?_) (fun c_16 => ?_)
              · have k_17 : (nD σ) ≤ j9 := (m_leN (a := (nD σ)) (b := j9) rfl rfl (by omega) (by omega)).mp c_16
                have k_17' : ¬ (j9 < (nD σ)) := by omega
                exfalso; omega
              · have k_18 : ¬ ((nD σ) ≤ j9) := fun z => c_16 ((m_leN (a := (nD σ)) (b := j9) rfl rfl (by omega) (by omega)).mpr z)
                have k_18' : j9 < (nD σ) := by omega
                refine lv_iconst (v := 2) hx hb dX8_duckByQuacks_47 (by decide) ?_
                refine lv_aload_n hx hb dX8_duckByQuacks_48 rfl (lv_at hl 0 rfl) ?_
                refine lv_iload hx hb dX8_duckByQuacks_49 (lv_at hl 6 rfl) ?_
                refine lv_iconst (v := 3) hx hb dX8_duckByQuacks_51 (by decide) ?_
                refine c_roVi S9 (c_X8_ofDuck_dq l G cy am aS aBf aAs aSv aPa aOu aTx aCo K OM LN PO CM iS 0 iw ea fa (nB σ) (vB σ) (hB σ) (pB σ) (mB σ) (nD σ) (bD σ) (lD σ) (uD σ) (qD σ) (wD σ) (nE σ) (kE σ) (bE σ) (lE σ) (tT σ) (dT σ) (aT σ) (rT σ) (hT σ) (xT σ) j9 (by omega)) (cwV 2 hts gX8_duckByQuacks_X8_ofDuck rfl rfl rfl (by decide +kernel) ⟨Nat.le_of_ble_eq_true rfl, Nat.le_of_ble_eq_true rfl⟩) PB.blind (va_recv hK.1 hP (ci := 12) (q0 := 0) rfl rfl) (PB.at hK (m_Ppart hP [0, 1] rfl)) rfl hl.1 rfl (Nat.le_of_ble_eq_true rfl) ⟨Nat.zero_le _, Nat.zero_le _⟩ dX8_duckByQuacks_52 ?_
                refine lv_aload_n hx hb dX8_duckByQuacks_55 rfl (lv_at hl 0 rfl) ?_
                refine lv_iload hx hb dX8_duckByQuacks_56 (lv_at hl 4 rfl) ?_
                refine lv_iconst (v := 3) hx hb dX8_duckByQuacks_58 (by decide) ?_
                refine c_roVi S9 (c_X8_ofDuck_dq l G cy am aS aBf aAs aSv aPa aOu aTx aCo K OM LN PO CM iS 0 iw ea fa (nB σ) (vB σ) (hB σ) (pB σ) (mB σ) (nD σ) (bD σ) (lD σ) (uD σ) (qD σ) (wD σ) (nE σ) (kE σ) (bE σ) (lE σ) (tT σ) (dT σ) (aT σ) (rT σ) (hT σ) (xT σ) k (by omega)) (cwV 2 hts gX8_duckByQuacks_X8_ofDuck rfl rfl rfl (by decide +kernel) ⟨Nat.le_of_ble_eq_true rfl, Nat.le_of_ble_eq_true rfl⟩) PB.blind (va_recv hK.1 hP (ci := 12) (q0 := 0) rfl rfl) (PB.at hK (m_Ppart hP [0, 1] rfl)) rfl hl.1 rfl (Nat.le_of_ble_eq_true rfl) ⟨Nat.zero_le _, Nat.zero_le _⟩ dX8_duckByQuacks_59 ?_
                refine lv_isub hx hb dX8_duckByQuacks_62 ?_
                refine lv_imul hx hb dX8_duckByQuacks_63 ?_
                refine lv_aload_n hx hb dX8_duckByQuacks_64 rfl (lv_at hl 0 rfl) ?_
                refine lv_iload hx hb dX8_duckByQuacks_65 (lv_at hl 6 rfl) ?_
                refine c_roVi S9 (c_X8_isPleased l G cy am aS aBf aAs aSv aPa aOu aTx aCo K OM LN PO CM iS 0 iw ea fa (nB σ) (vB σ) (hB σ) (pB σ) (mB σ) (nD σ) (bD σ) (lD σ) (uD σ) (qD σ) (wD σ) (nE σ) (kE σ) (bE σ) (lE σ) (tT σ) (dT σ) (aT σ) (rT σ) (hT σ) (xT σ) j9 (by omega) (ho.d j9 (by omega))) (cwV 1 hts gX8_duckByQuacks_X8_isPleased rfl rfl rfl (by decide +kernel) ⟨Nat.le_of_ble_eq_true rfl, Nat.le_of_ble_eq_true rfl⟩) PB.blind (va_recv hK.1 hP (ci := 12) (q0 := 0) rfl rfl) (PB.at hK (m_Ppart hP [0, 1] rfl)) rfl hl.1 rfl (Nat.le_of_ble_eq_true rfl) ⟨Nat.zero_le _, Nat.zero_le _⟩ dX8_duckByQuacks_67 ?_
                refine lv_if_eq (tgt := 77) hx hb dX8_duckByQuacks_70 (by decide) (fun c_19 => ?_) (fun c_19 => ?_)
                · have b_20 : ¬ (plz (vB σ) (hB σ) (bD σ) (lD σ) (uD σ) j9 = true) := m_ite0.mp c_19
                  refine lv_iconst (v := 0) hx hb dX8_duckByQuacks_77 (by decide) ?_
                  refine lv_iadd hx hb dX8_duckByQuacks_78 ?_
                  refine lv_aload_n hx hb dX8_duckByQuacks_79 rfl (lv_at hl 0 rfl) ?_
                  refine lv_iload hx hb dX8_duckByQuacks_80 (lv_at hl 4 rfl) ?_
                  refine c_roVi S9 (c_X8_isPleased l G cy am aS aBf aAs aSv aPa aOu aTx aCo K OM LN PO CM iS 0 iw ea fa (nB σ) (vB σ) (hB σ) (pB σ) (mB σ) (nD σ) (bD σ) (lD σ) (uD σ) (qD σ) (wD σ) (nE σ) (kE σ) (bE σ) (lE σ) (tT σ) (dT σ) (aT σ) (rT σ) (hT σ) (xT σ) k (by omega) (ho.d k (by omega))) (cwV 1 hts gX8_duckByQuacks_X8_isPleased rfl rfl rfl (by decide +kernel) ⟨Nat.le_of_ble_eq_true rfl, Nat.le_of_ble_eq_true rfl⟩) PB.blind (va_recv hK.1 hP (ci := 12) (q0 := 0) rfl rfl) (PB.at hK (m_Ppart hP [0, 1] rfl)) rfl hl.1 rfl (Nat.le_of_ble_eq_true rfl) ⟨Nat.zero_le _, Nat.zero_le _⟩ dX8_duckByQuacks_82 ?_
                  refine lv_if_eq (tgt := 92) hx hb dX8_duckByQuacks_85 (by decide) (fun c_21 => ?_) (fun c_21 => ?_)
                  · have b_22 : ¬ (plz (vB σ) (hB σ) (bD σ) (lD σ) (uD σ) k = true) := m_ite0.mp c_21
                    refine lv_iconst (v := 0) hx hb dX8_duckByQuacks_92 (by decide) ?_
                    refine lv_isub hx hb dX8_duckByQuacks_93 ?_
                    refine lv_t0 (show ((2 * (((qD σ) j9) - ((qD σ) k))) + 0) - 0 = byD (plz (vB σ) (hB σ) (bD σ) (lD σ) (uD σ)) (qD σ) j9 k from by unfold byD; rw [if_neg b_20, if_neg b_22]) ?_
                    refine lv_istore (lv' := [(7, .int (byD (plz (vB σ) (hB σ) (bD σ) (lD σ) (uD σ)) (qD σ) j9 k)), (0, .ref am), (1, .int i), (2, .int (lasF (fun b9 => rkDN (plz (vB σ) (hB σ) (bD σ) (lD σ) (uD σ)) (qD σ) b9 (nD σ)) i k)), (3, .int 1), (4, .int (nI k)), (5, .int (rkDN (plz (vB σ) (hB σ) (bD σ) (lD σ) (uD σ)) (qD σ) k j9)), (6, .int (nI j9))]) hx hb dX8_duckByQuacks_94 hl (by decide) rfl (fun ls hl => ?_)
                    refine lv_iload hx hb dX8_duckByQuacks_96 (lv_at hl 6 rfl) ?_
                    refine lv_iload hx hb dX8_duckByQuacks_98 (lv_at hl 0 rfl) ?_
                    refine lv_if_gt (tgt := 115) hx hb dX8_duckByQuacks_100 (by decide) (fun c_23 => ?_) (fun c_23 => ?_)
                    · have c_23' : ¬ (byD (plz (vB σ) (hB σ) (bD σ) (lD σ) (uD σ)) (qD σ) j9 k) ≤ 0 := Int32.not_le.mpr c_23
                      refine lv_iconst (v := 1) hx hb dX8_duckByQuacks_115 (by decide) ?_
                      refine lv_goto (tgt := 120) hx hb dX8_duckByQuacks_116 (by decide) ?_
                      refine lv_iadd hx hb dX8_duckByQuacks_120 ?_
                      refine lv_istore (lv' := [(5, .int ((rkDN (plz (vB σ) (hB σ) (bD σ) (lD σ) (uD σ)) (qD σ) k j9) + 1)), (7, .int (byD (plz (vB σ) (hB σ) (bD σ) (lD σ) (uD σ)) (qD σ) j9 k)), (0, .ref am), (1, .int i), (2, .int (lasF (fun b9 => rkDN (plz (vB σ) (hB σ) (bD σ) (lD σ) (uD σ)) (qD σ) b9 (nD σ)) i k)), (3, .int 1), (4, .int (nI k)), (6, .int (nI j9))]) hx hb dX8_duckByQuacks_121 hl (by decide) rfl (fun ls hl => ?_)
                      refine lv_iinc (v := nI (j9 + 1)) (lv' := [(6, .int (nI (j9 + 1))), (5, .int ((rkDN (plz (vB σ) (hB σ) (bD σ) (lD σ) (uD σ)) (qD σ) k j9) + 1)), (7, .int (byD (plz (vB σ) (hB σ) (bD σ) (lD σ) (uD σ)) (qD σ) j9 k)), (0, .ref am), (1, .int i), (2, .int (lasF (fun b9 => rkDN (plz (vB σ) (hB σ) (bD σ) (lD σ) (uD σ)) (qD σ) b9 (nD σ)) i k)), (3, .int 1), (4, .int (nI k))]) hx hb dX8_duckByQuacks_123 hl (k := 7) rfl (m_inc _) (by decide) rfl (fun ls hl => ?_)
                      refine lv_goto (tgt := 36) hx hb dX8_duckByQuacks_126 (by decide) ?_
                      have e_24 : rkDN (plz (vB σ) (hB σ) (bD σ) (lD σ) (uD σ)) (qD σ) k (j9 + 1) = (rkDN (plz (vB σ) (hB σ) (bD σ) (lD σ) (uD σ)) (qD σ) k j9) + 1 := (by simp only [rkDN]; rw [rkD_I hqb (show j9 < 6 by omega) (show k < 6 by omega)]; simp [c_16, c_23', c_23, k_7', k_7, k_18', k_18])
                      exact ih (j9 + 1) (by omega) H locs hP (m_D2 hD) hS ls (by rw [e_24]; exact lv_sub hl [3, 4, 5, 6, 7, 1, 0] rfl)
                    · have c_23' : (byD (plz (vB σ) (hB σ) (bD σ) (lD σ) (uD σ)) (qD σ) j9 k) ≤ 0 := Int32.not_lt.mp c_23
                      refine lv_iload hx hb dX8_duckByQuacks_103 (lv_at hl 0 rfl) ?_
                      refine lv_if_ne (tgt := 119) hx hb dX8_duckByQuacks_105 (by decide) (fun c_25 => ?_) (fun c_25 => ?_)
                      · refine lv_iconst (v := 0) hx hb dX8_duckByQuacks_119 (by decide) ?_
                        refine lv_iadd hx hb dX8_duckByQuacks_120 ?_
                        refine lv_istore (lv' := [(5, .int ((rkDN (plz (vB σ) (hB σ) (bD σ) (lD σ) (uD σ)) (qD σ) k j9) + 0)), (7, .int (byD (plz (vB σ) (hB σ) (bD σ) (lD σ) (uD σ)) (qD σ) j9 k)), (0, .ref am), (1, .int i), (2, .int (lasF (fun b9 => rkDN (plz (vB σ) (hB σ) (bD σ) (lD σ) (uD σ)) (qD σ) b9 (nD σ)) i k)), (3, .int 1), (4, .int (nI k)), (6, .int (nI j9))]) hx hb dX8_duckByQuacks_121 hl (by decide) rfl (fun ls hl => ?_)
                        refine lv_iinc (v := nI (j9 + 1)) (lv' := [(6, .int (nI (j9 + 1))), (5, .int ((rkDN (plz (vB σ) (hB σ) (bD σ) (lD σ) (uD σ)) (qD σ) k j9) + 0)), (7, .int (byD (plz (vB σ) (hB σ) (bD σ) (lD σ) (uD σ)) (qD σ) j9 k)), (0, .ref am), (1, .int i), (2, .int (lasF (fun b9 => rkDN (plz (vB σ) (hB σ) (bD σ) (lD σ) (uD σ)) (qD σ) b9 (nD σ)) i k)), (3, .int 1), (4, .int (nI k))]) hx hb dX8_duckByQuacks_123 hl (k := 7) rfl (m_inc _) (by decide) rfl (fun ls hl => ?_)
                        refine lv_goto (tgt := 36) hx hb dX8_duckByQuacks_126 (by decide) ?_
                        have e_26 : rkDN (plz (vB σ) (hB σ) (bD σ) (lD σ) (uD σ)) (qD σ) k (j9 + 1) = (rkDN (plz (vB σ) (hB σ) (bD σ) (lD σ) (uD σ)) (qD σ) k j9) + 0 := (by simp only [rkDN]; rw [rkD_I hqb (show j9 < 6 by omega) (show k < 6 by omega)]; simp [c_16, c_23', c_23, c_25, k_7', k_7, k_18', k_18])
                        exact ih (j9 + 1) (by omega) H locs hP (m_D2 hD) hS ls (by rw [e_26]; exact lv_sub hl [3, 4, 5, 6, 7, 1, 0] rfl)
                      · refine lv_iload hx hb dX8_duckByQuacks_108 (lv_at hl 7 rfl) ?_
                        refine lv_iload hx hb dX8_duckByQuacks_110 (lv_at hl 5 rfl) ?_
                        refine lv_icmp_ge (tgt := 119) hx hb dX8_duckByQuacks_112 (by decide) (fun c_27 => ?_) (fun c_27 => ?_)
                        · have k_28 : k ≤ j9 := (m_leN (a := k) (b := j9) rfl rfl (by omega) (by omega)).mp c_27
                          have k_28' : ¬ (j9 < k) := by omega
                          refine lv_iconst (v := 0) hx hb dX8_duckByQuacks_119 (by decide) ?_
                          refine lv_iadd hx hb dX8_duckByQuacks_120 ?_
                          refine lv_istore (lv' := [(5, .int ((rkDN (plz (vB σ) (hB σ) (bD σ) (lD σ) (uD σ)) (qD σ) k j9) + 0)), (7, .int (byD (plz (vB σ) (hB σ) (bD σ) (lD σ) (uD σ)) (qD σ) j9 k)), (0, .ref am), (1, .int i), (2, .int (lasF (fun b9 => rkDN (plz (vB σ) (hB σ) (bD σ) (lD σ) (uD σ)) (qD σ) b9 (nD σ)) i k)), (3, .int 1), (4, .int (nI k)), (6, .int (nI j9))]) hx hb dX8_duckByQuacks_121 hl (by decide) rfl (fun ls hl => ?_)
                          refine lv_iinc (v := nI (j9 + 1)) (lv' := [(6, .int (nI (j9 + 1))), (5, .int ((rkDN (plz (vB σ) (hB σ) (bD σ) (lD σ) (uD σ)) (qD σ) k j9) + 0)), (7, .int (byD (plz (vB σ) (hB σ) (bD σ) (lD σ) (uD σ)) (qD σ) j9 k)), (0, .ref am), (1, .int i), (2, .int (lasF (fun b9 => rkDN (plz (vB σ) (hB σ) (bD σ) (lD σ) (uD σ)) (qD σ) b9 (nD σ)) i k)), (3, .int 1), (4, .int (nI k))]) hx hb dX8_duckByQuacks_123 hl (k := 7) rfl (m_inc _) (by decide) rfl (fun ls hl => ?_)
                          refine lv_goto (tgt := 36) hx hb dX8_duckByQuacks_126 (by decide) ?_
                          have e_29 : rkDN (plz (vB σ) (hB σ) (bD σ) (lD σ) (uD σ)) (qD σ) k (j9 + 1) = (rkDN (plz (vB σ) (hB σ) (bD σ) (lD σ) (uD σ)) (qD σ) k j9) + 0 := (by simp only [rkDN]; rw [rkD_I hqb (show j9 < 6 by omega) (show k < 6 by omega)]; simp [c_16, c_23', c_23, c_25, c_27, k_7', k_7, k_18', k_18, k_28', k_28])
                          exact ih (j9 + 1) (by omega) H locs hP (m_D2 hD) hS ls (by rw [e_29]; exact lv_sub hl [3, 4, 5, 6, 7, 1, 0] rfl)
                        · have k_30 : ¬ (k ≤ j9) := fun z => c_27 ((m_leN (a := k) (b := j9) rfl rfl (by omega) (by omega)).mpr z)
                          have k_30' : j9 < k := by omega
                          refine lv_iconst (v := 1) hx hb dX8_duckByQuacks_115 (by decide) ?_
                          refine lv_goto (tgt := 120) hx hb dX8_duckByQuacks_116 (by decide) ?_
                          refine lv_iadd hx hb dX8_duckByQuacks_120 ?_
                          refine lv_istore (lv' := [(5, .int ((rkDN (plz (vB σ) (hB σ) (bD σ) (lD σ) (uD σ)) (qD σ) k j9) + 1)), (7, .int (byD (plz (vB σ) (hB σ) (bD σ) (lD σ) (uD σ)) (qD σ) j9 k)), (0, .ref am), (1, .int i), (2, .int (lasF (fun b9 => rkDN (plz (vB σ) (hB σ) (bD σ) (lD σ) (uD σ)) (qD σ) b9 (nD σ)) i k)), (3, .int 1), (4, .int (nI k)), (6, .int (nI j9))]) hx hb dX8_duckByQuacks_121 hl (by decide) rfl (fun ls hl => ?_)
                          refine lv_iinc (v := nI (j9 + 1)) (lv' := [(6, .int (nI (j9 + 1))), (5, .int ((rkDN (plz (vB σ) (hB σ) (bD σ) (lD σ) (uD σ)) (qD σ) k j9) + 1)), (7, .int (byD (plz (vB σ) (hB σ) (bD σ) (lD σ) (uD σ)) (qD σ) j9 k)), (0, .ref am), (1, .int i), (2, .int (lasF (fun b9 => rkDN (plz (vB σ) (hB σ) (bD σ) (lD σ) (uD σ)) (qD σ) b9 (nD σ)) i k)), (3, .int 1), (4, .int (nI k))]) hx hb dX8_duckByQuacks_123 hl (k := 7) rfl (m_inc _) (by decide) rfl (fun ls hl => ?_)
                          refine lv_goto (tgt := 36) hx hb dX8_duckByQuacks_126 (by decide) ?_
                          have e_31 : rkDN (plz (vB σ) (hB σ) (bD σ) (lD σ) (uD σ)) (qD σ) k (j9 + 1) = (rkDN (plz (vB σ) (hB σ) (bD σ) (lD σ) (uD σ)) (qD σ) k j9) + 1 := (by simp only [rkDN]; rw [rkD_I hqb (show j9 < 6 by omega) (show k < 6 by omega)]; simp [c_16, c_23', c_23, c_25, c_27, k_7', k_7, k_18', k_18, k_30', k_30])
                          exact ih (j9 + 1) (by omega) H locs hP (m_D2 hD) hS ls (by rw [e_31]; exact lv_sub hl [3, 4, 5, 6, 7, 1, 0] rfl)
                  · have b_32 : plz (vB σ) (hB σ) (bD σ) (lD σ) (uD σ) k = true := m_ite1.mp c_21
                    refine lv_iconst (v := 1) hx hb dX8_duckByQuacks_88 (by decide) ?_
                    refine lv_goto (tgt := 93) hx hb dX8_duckByQuacks_89 (by decide) ?_
                    refine lv_isub hx hb dX8_duckByQuacks_93 ?_
                    refine lv_t0 (show ((2 * (((qD σ) j9) - ((qD σ) k))) + 0) - 1 = byD (plz (vB σ) (hB σ) (bD σ) (lD σ) (uD σ)) (qD σ) j9 k from by unfold byD; rw [if_neg b_20, if_pos b_32]) ?_
                    refine lv_istore (lv' := [(7, .int (byD (plz (vB σ) (hB σ) (bD σ) (lD σ) (uD σ)) (qD σ) j9 k)), (0, .ref am), (1, .int i), (2, .int (lasF (fun b9 => rkDN (plz (vB σ) (hB σ) (bD σ) (lD σ) (uD σ)) (qD σ) b9 (nD σ)) i k)), (3, .int 1), (4, .int (nI k)), (5, .int (rkDN (plz (vB σ) (hB σ) (bD σ) (lD σ) (uD σ)) (qD σ) k j9)), (6, .int (nI j9))]) hx hb dX8_duckByQuacks_94 hl (by decide) rfl (fun ls hl => ?_)
                    refine lv_iload hx hb dX8_duckByQuacks_96 (lv_at hl 6 rfl) ?_
                    refine lv_iload hx hb dX8_duckByQuacks_98 (lv_at hl 0 rfl) ?_
                    refine lv_if_gt (tgt := 115) hx hb dX8_duckByQuacks_100 (by decide) (fun c_33 => ?_) (fun c_33 => ?_)
                    · have c_33' : ¬ (byD (plz (vB σ) (hB σ) (bD σ) (lD σ) (uD σ)) (qD σ) j9 k) ≤ 0 := Int32.not_le.mpr c_33
                      refine lv_iconst (v := 1) hx hb dX8_duckByQuacks_115 (by decide) ?_
                      refine lv_goto (tgt := 120) hx hb dX8_duckByQuacks_116 (by decide) ?_
                      refine lv_iadd hx hb dX8_duckByQuacks_120 ?_
                      refine lv_istore (lv' := [(5, .int ((rkDN (plz (vB σ) (hB σ) (bD σ) (lD σ) (uD σ)) (qD σ) k j9) + 1)), (7, .int (byD (plz (vB σ) (hB σ) (bD σ) (lD σ) (uD σ)) (qD σ) j9 k)), (0, .ref am), (1, .int i), (2, .int (lasF (fun b9 => rkDN (plz (vB σ) (hB σ) (bD σ) (lD σ) (uD σ)) (qD σ) b9 (nD σ)) i k)), (3, .int 1), (4, .int (nI k)), (6, .int (nI j9))]) hx hb dX8_duckByQuacks_121 hl (by decide) rfl (fun ls hl => ?_)
                      refine lv_iinc (v := nI (j9 + 1)) (lv' := [(6, .int (nI (j9 + 1))), (5, .int ((rkDN (plz (vB σ) (hB σ) (bD σ) (lD σ) (uD σ)) (qD σ) k j9) + 1)), (7, .int (byD (plz (vB σ) (hB σ) (bD σ) (lD σ) (uD σ)) (qD σ) j9 k)), (0, .ref am), (1, .int i), (2, .int (lasF (fun b9 => rkDN (plz (vB σ) (hB σ) (bD σ) (lD σ) (uD σ)) (qD σ) b9 (nD σ)) i k)), (3, .int 1), (4, .int (nI k))]) hx hb dX8_duckByQuacks_123 hl (k := 7) rfl (m_inc _) (by decide) rfl (fun ls hl => ?_)
                      refine lv_goto (tgt := 36) hx hb dX8_duckByQuacks_126 (by decide) ?_
                      have e_34 : rkDN (plz (vB σ) (hB σ) (bD σ) (lD σ) (uD σ)) (qD σ) k (j9 + 1) = (rkDN (plz (vB σ) (hB σ) (bD σ) (lD σ) (uD σ)) (qD σ) k j9) + 1 := (by simp only [rkDN]; rw [rkD_I hqb (show j9 < 6 by omega) (show k < 6 by omega)]; simp [c_16, c_33', c_33, k_7', k_7, k_18', k_18])
                      exact ih (j9 + 1) (by omega) H locs hP (m_D2 hD) hS ls (by rw [e_34]; exact lv_sub hl [3, 4, 5, 6, 7, 1, 0] rfl)
                    · have c_33' : (byD (plz (vB σ) (hB σ) (bD σ) (lD σ) (uD σ)) (qD σ) j9 k) ≤ 0 := Int32.not_lt.mp c_33
                      refine lv_iload hx hb dX8_duckByQuacks_103 (lv_at hl 0 rfl) ?_
                      refine lv_if_ne (tgt := 119) hx hb dX8_duckByQuacks_105 (by decide) (fun c_35 => ?_) (fun c_35 => ?_)
                      · refine lv_iconst (v := 0) hx hb dX8_duckByQuacks_119 (by decide) ?_
                        refine lv_iadd hx hb dX8_duckByQuacks_120 ?_
                        refine lv_istore (lv' := [(5, .int ((rkDN (plz (vB σ) (hB σ) (bD σ) (lD σ) (uD σ)) (qD σ) k j9) + 0)), (7, .int (byD (plz (vB σ) (hB σ) (bD σ) (lD σ) (uD σ)) (qD σ) j9 k)), (0, .ref am), (1, .int i), (2, .int (lasF (fun b9 => rkDN (plz (vB σ) (hB σ) (bD σ) (lD σ) (uD σ)) (qD σ) b9 (nD σ)) i k)), (3, .int 1), (4, .int (nI k)), (6, .int (nI j9))]) hx hb dX8_duckByQuacks_121 hl (by decide) rfl (fun ls hl => ?_)
                        refine lv_iinc (v := nI (j9 + 1)) (lv' := [(6, .int (nI (j9 + 1))), (5, .int ((rkDN (plz (vB σ) (hB σ) (bD σ) (lD σ) (uD σ)) (qD σ) k j9) + 0)), (7, .int (byD (plz (vB σ) (hB σ) (bD σ) (lD σ) (uD σ)) (qD σ) j9 k)), (0, .ref am), (1, .int i), (2, .int (lasF (fun b9 => rkDN (plz (vB σ) (hB σ) (bD σ) (lD σ) (uD σ)) (qD σ) b9 (nD σ)) i k)), (3, .int 1), (4, .int (nI k))]) hx hb dX8_duckByQuacks_123 hl (k := 7) rfl (m_inc _) (by decide) rfl (fun ls hl => ?_)
                        refine lv_goto (tgt := 36) hx hb dX8_duckByQuacks_126 (by decide) ?_
                        have e_36 : rkDN (plz (vB σ) (hB σ) (bD σ) (lD σ) (uD σ)) (qD σ) k (j9 + 1) = (rkDN (plz (vB σ) (hB σ) (bD σ) (lD σ) (uD σ)) (qD σ) k j9) + 0 := (by simp only [rkDN]; rw [rkD_I hqb (show j9 < 6 by omega) (show k < 6 by omega)]; simp [c_16, c_33', c_33, c_35, k_7', k_7, k_18', k_18])
                        exact ih (j9 + 1) (by omega) H locs hP (m_D2 hD) hS ls (by rw [e_36]; exact lv_sub hl [3, 4, 5, 6, 7, 1, 0] rfl)
                      · refine lv_iload hx hb dX8_duckByQuacks_108 (lv_at hl 7 rfl) ?_
                        refine lv_iload hx hb dX8_duckByQuacks_110 (lv_at hl 5 rfl) ?_
                        refine lv_icmp_ge (tgt := 119) hx hb dX8_duckByQuacks_112 (by decide) (fun c_37 => ?_) (fun c_37 => ?_)
                        · have k_38 : k ≤ j9 := (m_leN (a := k) (b := j9) rfl rfl (by omega) (by omega)).mp c_37
                          have k_38' : ¬ (j9 < k) := by omega
                          refine lv_iconst (v := 0) hx hb dX8_duckByQuacks_119 (by decide) ?_
                          refine lv_iadd hx hb dX8_duckByQuacks_120 ?_
                          refine lv_istore (lv' := [(5, .int ((rkDN (plz (vB σ) (hB σ) (bD σ) (lD σ) (uD σ)) (qD σ) k j9) + 0)), (7, .int (byD (plz (vB σ) (hB σ) (bD σ) (lD σ) (uD σ)) (qD σ) j9 k)), (0, .ref am), (1, .int i), (2, .int (lasF (fun b9 => rkDN (plz (vB σ) (hB σ) (bD σ) (lD σ) (uD σ)) (qD σ) b9 (nD σ)) i k)), (3, .int 1), (4, .int (nI k)), (6, .int (nI j9))]) hx hb dX8_duckByQuacks_121 hl (by decide) rfl (fun ls hl => ?_)
                          refine lv_iinc (v := nI (j9 + 1)) (lv' := [(6, .int (nI (j9 + 1))), (5, .int ((rkDN (plz (vB σ) (hB σ) (bD σ) (lD σ) (uD σ)) (qD σ) k j9) + 0)), (7, .int (byD (plz (vB σ) (hB σ) (bD σ) (lD σ) (uD σ)) (qD σ) j9 k)), (0, .ref am), (1, .int i), (2, .int (lasF (fun b9 => rkDN (plz (vB σ) (hB σ) (bD σ) (lD σ) (uD σ)) (qD σ) b9 (nD σ)) i k)), (3, .int 1), (4, .int (nI k))]) hx hb dX8_duckByQuacks_123 hl (k := 7) rfl (m_inc _) (by decide) rfl (fun ls hl => ?_)
                          refine lv_goto (tgt := 36) hx hb dX8_duckByQuacks_126 (by decide) ?_
                          have e_39 : rkDN (plz (vB σ) (hB σ) (bD σ) (lD σ) (uD σ)) (qD σ) k (j9 + 1) = (rkDN (plz (vB σ) (hB σ) (bD σ) (lD σ) (uD σ)) (qD σ) k j9) + 0 := (by simp only [rkDN]; rw [rkD_I hqb (show j9 < 6 by omega) (show k < 6 by omega)]; simp [c_16, c_33', c_33, c_35, c_37, k_7', k_7, k_18', k_18, k_38', k_38])
                          exact ih (j9 + 1) (by omega) H locs hP (m_D2 hD) hS ls (by rw [e_39]; exact lv_sub hl [3, 4, 5, 6, 7, 1, 0] rfl)
                        · have k_40 : ¬ (k ≤ j9) := fun z => c_37 ((m_leN (a := k) (b := j9) rfl rfl (by omega) (by omega)).mpr z)
                          have k_40' : j9 < k := by omega
                          refine lv_iconst (v := 1) hx hb dX8_duckByQuacks_115 (by decide) ?_
                          refine lv_goto (tgt := 120) hx hb dX8_duckByQuacks_116 (by decide) ?_
                          refine lv_iadd hx hb dX8_duckByQuacks_120 ?_
                          refine lv_istore (lv' := [(5, .int ((rkDN (plz (vB σ) (hB σ) (bD σ) (lD σ) (uD σ)) (qD σ) k j9) + 1)), (7, .int (byD (plz (vB σ) (hB σ) (bD σ) (lD σ) (uD σ)) (qD σ) j9 k)), (0, .ref am), (1, .int i), (2, .int (lasF (fun b9 => rkDN (plz (vB σ) (hB σ) (bD σ) (lD σ) (uD σ)) (qD σ) b9 (nD σ)) i k)), (3, .int 1), (4, .int (nI k)), (6, .int (nI j9))]) hx hb dX8_duckByQuacks_121 hl (by decide) rfl (fun ls hl => ?_)
                          refine lv_iinc (v := nI (j9 + 1)) (lv' := [(6, .int (nI (j9 + 1))), (5, .int ((rkDN (plz (vB σ) (hB σ) (bD σ) (lD σ) (uD σ)) (qD σ) k j9) + 1)), (7, .int (byD (plz (vB σ) (hB σ) (bD σ) (lD σ) (uD σ)) (qD σ) j9 k)), (0, .ref am), (1, .int i), (2, .int (lasF (fun b9 => rkDN (plz (vB σ) (hB σ) (bD σ) (lD σ) (uD σ)) (qD σ) b9 (nD σ)) i k)), (3, .int 1), (4, .int (nI k))]) hx hb dX8_duckByQuacks_123 hl (k := 7) rfl (m_inc _) (by decide) rfl (fun ls hl => ?_)
                          refine lv_goto (tgt := 36) hx hb dX8_duckByQuacks_126 (by decide) ?_
                          have e_41 : rkDN (plz (vB σ) (hB σ) (bD σ) (lD σ) (uD σ)) (qD σ) k (j9 + 1) = (rkDN (plz (vB σ) (hB σ) (bD σ) (lD σ) (uD σ)) (qD σ) k j9) + 1 := (by simp only [rkDN]; rw [rkD_I hqb (show j9 < 6 by omega) (show k < 6 by omega)]; simp [c_16, c_33', c_33, c_35, c_37, k_7', k_7, k_18', k_18, k_40', k_40])
                          exact ih (j9 + 1) (by omega) H locs hP (m_D2 hD) hS ls (by rw [e_41]; exact lv_sub hl [3, 4, 5, 6, 7, 1, 0] rfl)
                · have b_42 : plz (vB σ) (hB σ) (bD σ) (lD σ) (uD σ) j9 = true := m_ite1.mp c_19
                  refine lv_iconst (v := 1) hx hb dX8_duckByQuacks_73 (by decide) ?_
                  refine lv_goto (tgt := 78) hx hb dX8_duckByQuacks_74 (by decide) ?_
                  refine lv_iadd hx hb dX8_duckByQuacks_78 ?_
                  refine lv_aload_n hx hb dX8_duckByQuacks_79 rfl (lv_at hl 0 rfl) ?_
                  refine lv_iload hx hb dX8_duckByQuacks_80 (lv_at hl 4 rfl) ?_
                  refine c_roVi S9 (c_X8_isPleased l G cy am aS aBf aAs aSv aPa aOu aTx aCo K OM LN PO CM iS 0 iw ea fa (nB σ) (vB σ) (hB σ) (pB σ) (mB σ) (nD σ) (bD σ) (lD σ) (uD σ) (qD σ) (wD σ) (nE σ) (kE σ) (bE σ) (lE σ) (tT σ) (dT σ) (aT σ) (rT σ) (hT σ) (xT σ) k (by omega) (ho.d k (by omega))) (cwV 1 hts gX8_duckByQuacks_X8_isPleased rfl rfl rfl (by decide +kernel) ⟨Nat.le_of_ble_eq_true rfl, Nat.le_of_ble_eq_true rfl⟩) PB.blind (va_recv hK.1 hP (ci := 12) (q0 := 0) rfl rfl) (PB.at hK (m_Ppart hP [0, 1] rfl)) rfl hl.1 rfl (Nat.le_of_ble_eq_true rfl) ⟨Nat.zero_le _, Nat.zero_le _⟩ dX8_duckByQuacks_82 ?_
                  refine lv_if_eq (tgt := 92) hx hb dX8_duckByQuacks_85 (by decide) (fun c_43 => ?_) (fun c_43 => ?_)
                  · have b_44 : ¬ (plz (vB σ) (hB σ) (bD σ) (lD σ) (uD σ) k = true) := m_ite0.mp c_43
                    refine lv_iconst (v := 0) hx hb dX8_duckByQuacks_92 (by decide) ?_
                    refine lv_isub hx hb dX8_duckByQuacks_93 ?_
                    refine lv_t0 (show ((2 * (((qD σ) j9) - ((qD σ) k))) + 1) - 0 = byD (plz (vB σ) (hB σ) (bD σ) (lD σ) (uD σ)) (qD σ) j9 k from by unfold byD; rw [if_pos b_42, if_neg b_44]) ?_
                    refine lv_istore (lv' := [(7, .int (byD (plz (vB σ) (hB σ) (bD σ) (lD σ) (uD σ)) (qD σ) j9 k)), (0, .ref am), (1, .int i), (2, .int (lasF (fun b9 => rkDN (plz (vB σ) (hB σ) (bD σ) (lD σ) (uD σ)) (qD σ) b9 (nD σ)) i k)), (3, .int 1), (4, .int (nI k)), (5, .int (rkDN (plz (vB σ) (hB σ) (bD σ) (lD σ) (uD σ)) (qD σ) k j9)), (6, .int (nI j9))]) hx hb dX8_duckByQuacks_94 hl (by decide) rfl (fun ls hl => ?_)
                    refine lv_iload hx hb dX8_duckByQuacks_96 (lv_at hl 6 rfl) ?_
                    refine lv_iload hx hb dX8_duckByQuacks_98 (lv_at hl 0 rfl) ?_
                    refine lv_if_gt (tgt := 115) hx hb dX8_duckByQuacks_100 (by decide) (fun c_45 => ?_) (fun c_45 => ?_)
                    · have c_45' : ¬ (byD (plz (vB σ) (hB σ) (bD σ) (lD σ) (uD σ)) (qD σ) j9 k) ≤ 0 := Int32.not_le.mpr c_45
                      refine lv_iconst (v := 1) hx hb dX8_duckByQuacks_115 (by decide) ?_
                      refine lv_goto (tgt := 120) hx hb dX8_duckByQuacks_116 (by decide) ?_
                      refine lv_iadd hx hb dX8_duckByQuacks_120 ?_
                      refine lv_istore (lv' := [(5, .int ((rkDN (plz (vB σ) (hB σ) (bD σ) (lD σ) (uD σ)) (qD σ) k j9) + 1)), (7, .int (byD (plz (vB σ) (hB σ) (bD σ) (lD σ) (uD σ)) (qD σ) j9 k)), (0, .ref am), (1, .int i), (2, .int (lasF (fun b9 => rkDN (plz (vB σ) (hB σ) (bD σ) (lD σ) (uD σ)) (qD σ) b9 (nD σ)) i k)), (3, .int 1), (4, .int (nI k)), (6, .int (nI j9))]) hx hb dX8_duckByQuacks_121 hl (by decide) rfl (fun ls hl => ?_)
                      refine lv_iinc (v := nI (j9 + 1)) (lv' := [(6, .int (nI (j9 + 1))), (5, .int ((rkDN (plz (vB σ) (hB σ) (bD σ) (lD σ) (uD σ)) (qD σ) k j9) + 1)), (7, .int (byD (plz (vB σ) (hB σ) (bD σ) (lD σ) (uD σ)) (qD σ) j9 k)), (0, .ref am), (1, .int i), (2, .int (lasF (fun b9 => rkDN (plz (vB σ) (hB σ) (bD σ) (lD σ) (uD σ)) (qD σ) b9 (nD σ)) i k)), (3, .int 1), (4, .int (nI k))]) hx hb dX8_duckByQuacks_123 hl (k := 7) rfl (m_inc _) (by decide) rfl (fun ls hl => ?_)
                      refine lv_goto (tgt := 36) hx hb dX8_duckByQuacks_126 (by decide) ?_
                      have e_46 : rkDN (plz (vB σ) (hB σ) (bD σ) (lD σ) (uD σ)) (qD σ) k (j9 + 1) = (rkDN (plz (vB σ) (hB σ) (bD σ) (lD σ) (uD σ)) (qD σ) k j9) + 1 := (by simp only [rkDN]; rw [rkD_I hqb (show j9 < 6 by omega) (show k < 6 by omega)]; simp [c_16, c_45', c_45, k_7', k_7, k_18', k_18])
                      exact ih (j9 + 1) (by omega) H locs hP (m_D2 hD) hS ls (by rw [e_46]; exact lv_sub hl [3, 4, 5, 6, 7, 1, 0] rfl)
                    · have c_45' : (byD (plz (vB σ) (hB σ) (bD σ) (lD σ) (uD σ)) (qD σ) j9 k) ≤ 0 := Int32.not_lt.mp c_45
                      refine lv_iload hx hb dX8_duckByQuacks_103 (lv_at hl 0 rfl) ?_
                      refine lv_if_ne (tgt := 119) hx hb dX8_duckByQuacks_105 (by decide) (fun c_47 => ?_) (fun c_47 => ?_)
                      · refine lv_iconst (v := 0) hx hb dX8_duckByQuacks_119 (by decide) ?_
                        refine lv_iadd hx hb dX8_duckByQuacks_120 ?_
                        refine lv_istore (lv' := [(5, .int ((rkDN (plz (vB σ) (hB σ) (bD σ) (lD σ) (uD σ)) (qD σ) k j9) + 0)), (7, .int (byD (plz (vB σ) (hB σ) (bD σ) (lD σ) (uD σ)) (qD σ) j9 k)), (0, .ref am), (1, .int i), (2, .int (lasF (fun b9 => rkDN (plz (vB σ) (hB σ) (bD σ) (lD σ) (uD σ)) (qD σ) b9 (nD σ)) i k)), (3, .int 1), (4, .int (nI k)), (6, .int (nI j9))]) hx hb dX8_duckByQuacks_121 hl (by decide) rfl (fun ls hl => ?_)
                        refine lv_iinc (v := nI (j9 + 1)) (lv' := [(6, .int (nI (j9 + 1))), (5, .int ((rkDN (plz (vB σ) (hB σ) (bD σ) (lD σ) (uD σ)) (qD σ) k j9) + 0)), (7, .int (byD (plz (vB σ) (hB σ) (bD σ) (lD σ) (uD σ)) (qD σ) j9 k)), (0, .ref am), (1, .int i), (2, .int (lasF (fun b9 => rkDN (plz (vB σ) (hB σ) (bD σ) (lD σ) (uD σ)) (qD σ) b9 (nD σ)) i k)), (3, .int 1), (4, .int (nI k))]) hx hb dX8_duckByQuacks_123 hl (k := 7) rfl (m_inc _) (by decide) rfl (fun ls hl => ?_)
                        refine lv_goto (tgt := 36) hx hb dX8_duckByQuacks_126 (by decide) ?_
                        have e_48 : rkDN (plz (vB σ) (hB σ) (bD σ) (lD σ) (uD σ)) (qD σ) k (j9 + 1) = (rkDN (plz (vB σ) (hB σ) (bD σ) (lD σ) (uD σ)) (qD σ) k j9) + 0 := (by simp only [rkDN]; rw [rkD_I hqb (show j9 < 6 by omega) (show k < 6 by omega)]; simp [c_16, c_45', c_45, c_47, k_7', k_7, k_18', k_18])
                        exact ih (j9 + 1) (by omega) H locs hP (m_D2 hD) hS ls (by rw [e_48]; exact lv_sub hl [3, 4, 5, 6, 7, 1, 0] rfl)
                      · refine lv_iload hx hb dX8_duckByQuacks_108 (lv_at hl 7 rfl) ?_
                        refine lv_iload hx hb dX8_duckByQuacks_110 (lv_at hl 5 rfl) ?_
                        refine lv_icmp_ge (tgt := 119) hx hb dX8_duckByQuacks_112 (by decide) (fun c_49 => ?_) (fun c_49 => ?_)
                        · have k_50 : k ≤ j9 := (m_leN (a := k) (b := j9) rfl rfl (by omega) (by omega)).mp c_49
                          have k_50' : ¬ (j9 < k) := by omega
                          refine lv_iconst (v := 0) hx hb dX8_duckByQuacks_119 (by decide) ?_
                          refine lv_iadd hx hb dX8_duckByQuacks_120 ?_
                          refine lv_istore (lv' := [(5, .int ((rkDN (plz (vB σ) (hB σ) (bD σ) (lD σ) (uD σ)) (qD σ) k j9) + 0)), (7, .int (byD (plz (vB σ) (hB σ) (bD σ) (lD σ) (uD σ)) (qD σ) j9 k)), (0, .ref am), (1, .int i), (2, .int (lasF (fun b9 => rkDN (plz (vB σ) (hB σ) (bD σ) (lD σ) (uD σ)) (qD σ) b9 (nD σ)) i k)), (3, .int 1), (4, .int (nI k)), (6, .int (nI j9))]) hx hb dX8_duckByQuacks_121 hl (by decide) rfl (fun ls hl => ?_)
                          refine lv_iinc (v := nI (j9 + 1)) (lv' := [(6, .int (nI (j9 + 1))), (5, .int ((rkDN (plz (vB σ) (hB σ) (bD σ) (lD σ) (uD σ)) (qD σ) k j9) + 0)), (7, .int (byD (plz (vB σ) (hB σ) (bD σ) (lD σ) (uD σ)) (qD σ) j9 k)), (0, .ref am), (1, .int i), (2, .int (lasF (fun b9 => rkDN (plz (vB σ) (hB σ) (bD σ) (lD σ) (uD σ)) (qD σ) b9 (nD σ)) i k)), (3, .int 1), (4, .int (nI k))]) hx hb dX8_duckByQuacks_123 hl (k := 7) rfl (m_inc _) (by decide) rfl (fun ls hl => ?_)
                          refine lv_goto (tgt := 36) hx hb dX8_duckByQuacks_126 (by decide) ?_
                          have e_51 : rkDN (plz (vB σ) (hB σ) (bD σ) (lD σ) (uD σ)) (qD σ) k (j9 + 1) = (rkDN (plz (vB σ) (hB σ) (bD σ) (lD σ) (uD σ)) (qD σ) k j9) + 0 := (by simp only [rkDN]; rw [rkD_I hqb (show j9 < 6 by omega) (show k < 6 by omega)]; simp [c_16, c_45', c_45, c_47, c_49, k_7', k_7, k_18', k_18, k_50', k_50])
                          exact ih (j9 + 1) (by omega) H locs hP (m_D2 hD) hS ls (by rw [e_51]; exact lv_sub hl [3, 4, 5, 6, 7, 1, 0] rfl)
                        · have k_52 : ¬ (k ≤ j9) := fun z => c_49 ((m_leN (a := k) (b := j9) rfl rfl (by omega) (by omega)).mpr z)
                          have k_52' : j9 < k := by omega
                          refine lv_iconst (v := 1) hx hb dX8_duckByQuacks_115 (by decide) ?_
                          refine lv_goto (tgt := 120) hx hb dX8_duckByQuacks_116 (by decide) ?_
                          refine lv_iadd hx hb dX8_duckByQuacks_120 ?_
                          refine lv_istore (lv' := [(5, .int ((rkDN (plz (vB σ) (hB σ) (bD σ) (lD σ) (uD σ)) (qD σ) k j9) + 1)), (7, .int (byD (plz (vB σ) (hB σ) (bD σ) (lD σ) (uD σ)) (qD σ) j9 k)), (0, .ref am), (1, .int i), (2, .int (lasF (fun b9 => rkDN (plz (vB σ) (hB σ) (bD σ) (lD σ) (uD σ)) (qD σ) b9 (nD σ)) i k)), (3, .int 1), (4, .int (nI k)), (6, .int (nI j9))]) hx hb dX8_duckByQuacks_121 hl (by decide) rfl (fun ls hl => ?_)
                          refine lv_iinc (v := nI (j9 + 1)) (lv' := [(6, .int (nI (j9 + 1))), (5, .int ((rkDN (plz (vB σ) (hB σ) (bD σ) (lD σ) (uD σ)) (qD σ) k j9) + 1)), (7, .int (byD (plz (vB σ) (hB σ) (bD σ) (lD σ) (uD σ)) (qD σ) j9 k)), (0, .ref am), (1, .int i), (2, .int (lasF (fun b9 => rkDN (plz (vB σ) (hB σ) (bD σ) (lD σ) (uD σ)) (qD σ) b9 (nD σ)) i k)), (3, .int 1), (4, .int (nI k))]) hx hb dX8_duckByQuacks_123 hl (k := 7) rfl (m_inc _) (by decide) rfl (fun ls hl => ?_)
                          refine lv_goto (tgt := 36) hx hb dX8_duckByQuacks_126 (by decide) ?_
                          have e_53 : rkDN (plz (vB σ) (hB σ) (bD σ) (lD σ) (uD σ)) (qD σ) k (j9 + 1) = (rkDN (plz (vB σ) (hB σ) (bD σ) (lD σ) (uD σ)) (qD σ) k j9) + 1 := (by simp only [rkDN]; rw [rkD_I hqb (show j9 < 6 by omega) (show k < 6 by omega)]; simp [c_16, c_45', c_45, c_47, c_49, k_7', k_7, k_18', k_18, k_52', k_52])
                          exact ih (j9 + 1) (by omega) H locs hP (m_D2 hD) hS ls (by rw [e_53]; exact lv_sub hl [3, 4, 5, 6, 7, 1, 0] rfl)
                  · have b_54 : plz (vB σ) (hB σ) (bD σ) (lD σ) (uD σ) k = true := m_ite1.mp c_43
                    refine lv_iconst (v := 1) hx hb dX8_duckByQuacks_88 (by decide) ?_
                    refine lv_goto (tgt := 93) hx hb dX8_duckByQuacks_89 (by decide) ?_
                    refine lv_isub hx hb dX8_duckByQuacks_93 ?_
                    refine lv_t0 (show ((2 * (((qD σ) j9) - ((qD σ) k))) + 1) - 1 = byD (plz (vB σ) (hB σ) (bD σ) (lD σ) (uD σ)) (qD σ) j9 k from by unfold byD; rw [if_pos b_42, if_pos b_54]) ?_
                    refine lv_istore (lv' := [(7, .int (byD (plz (vB σ) (hB σ) (bD σ) (lD σ) (uD σ)) (qD σ) j9 k)), (0, .ref am), (1, .int i), (2, .int (lasF (fun b9 => rkDN (plz (vB σ) (hB σ) (bD σ) (lD σ) (uD σ)) (qD σ) b9 (nD σ)) i k)), (3, .int 1), (4, .int (nI k)), (5, .int (rkDN (plz (vB σ) (hB σ) (bD σ) (lD σ) (uD σ)) (qD σ) k j9)), (6, .int (nI j9))]) hx hb dX8_duckByQuacks_94 hl (by decide) rfl (fun ls hl => ?_)
                    refine lv_iload hx hb dX8_duckByQuacks_96 (lv_at hl 6 rfl) ?_
                    refine lv_iload hx hb dX8_duckByQuacks_98 (lv_at hl 0 rfl) ?_
                    refine lv_if_gt (tgt := 115) hx hb dX8_duckByQuacks_100 (by decide) (fun c_55 => ?_) (fun c_55 => ?_)
                    · have c_55' : ¬ (byD (plz (vB σ) (hB σ) (bD σ) (lD σ) (uD σ)) (qD σ) j9 k) ≤ 0 := Int32.not_le.mpr c_55
                      refine lv_iconst (v := 1) hx hb dX8_duckByQuacks_115 (by decide) ?_
                      refine lv_goto (tgt := 120) hx hb dX8_duckByQuacks_116 (by decide) ?_
                      refine lv_iadd hx hb dX8_duckByQuacks_120 ?_
                      refine lv_istore (lv' := [(5, .int ((rkDN (plz (vB σ) (hB σ) (bD σ) (lD σ) (uD σ)) (qD σ) k j9) + 1)), (7, .int (byD (plz (vB σ) (hB σ) (bD σ) (lD σ) (uD σ)) (qD σ) j9 k)), (0, .ref am), (1, .int i), (2, .int (lasF (fun b9 => rkDN (plz (vB σ) (hB σ) (bD σ) (lD σ) (uD σ)) (qD σ) b9 (nD σ)) i k)), (3, .int 1), (4, .int (nI k)), (6, .int (nI j9))]) hx hb dX8_duckByQuacks_121 hl (by decide) rfl (fun ls hl => ?_)
                      refine lv_iinc (v := nI (j9 + 1)) (lv' := [(6, .int (nI (j9 + 1))), (5, .int ((rkDN (plz (vB σ) (hB σ) (bD σ) (lD σ) (uD σ)) (qD σ) k j9) + 1)), (7, .int (byD (plz (vB σ) (hB σ) (bD σ) (lD σ) (uD σ)) (qD σ) j9 k)), (0, .ref am), (1, .int i), (2, .int (lasF (fun b9 => rkDN (plz (vB σ) (hB σ) (bD σ) (lD σ) (uD σ)) (qD σ) b9 (nD σ)) i k)), (3, .int 1), (4, .int (nI k))]) hx hb dX8_duckByQuacks_123 hl (k := 7) rfl (m_inc _) (by decide) rfl (fun ls hl => ?_)
                      refine lv_goto (tgt := 36) hx hb dX8_duckByQuacks_126 (by decide) ?_
                      have e_56 : rkDN (plz (vB σ) (hB σ) (bD σ) (lD σ) (uD σ)) (qD σ) k (j9 + 1) = (rkDN (plz (vB σ) (hB σ) (bD σ) (lD σ) (uD σ)) (qD σ) k j9) + 1 := (by simp only [rkDN]; rw [rkD_I hqb (show j9 < 6 by omega) (show k < 6 by omega)]; simp [c_16, c_55', c_55, k_7', k_7, k_18', k_18])
                      exact ih (j9 + 1) (by omega) H locs hP (m_D2 hD) hS ls (by rw [e_56]; exact lv_sub hl [3, 4, 5, 6, 7, 1, 0] rfl)
                    · have c_55' : (byD (plz (vB σ) (hB σ) (bD σ) (lD σ) (uD σ)) (qD σ) j9 k) ≤ 0 := Int32.not_lt.mp c_55
                      refine lv_iload hx hb dX8_duckByQuacks_103 (lv_at hl 0 rfl) ?_
                      refine lv_if_ne (tgt := 119) hx hb dX8_duckByQuacks_105 (by decide) (fun c_57 => ?_) (fun c_57 => ?_)
                      · refine lv_iconst (v := 0) hx hb dX8_duckByQuacks_119 (by decide) ?_
                        refine lv_iadd hx hb dX8_duckByQuacks_120 ?_
                        refine lv_istore (lv' := [(5, .int ((rkDN (plz (vB σ) (hB σ) (bD σ) (lD σ) (uD σ)) (qD σ) k j9) + 0)), (7, .int (byD (plz (vB σ) (hB σ) (bD σ) (lD σ) (uD σ)) (qD σ) j9 k)), (0, .ref am), (1, .int i), (2, .int (lasF (fun b9 => rkDN (plz (vB σ) (hB σ) (bD σ) (lD σ) (uD σ)) (qD σ) b9 (nD σ)) i k)), (3, .int 1), (4, .int (nI k)), (6, .int (nI j9))]) hx hb dX8_duckByQuacks_121 hl (by decide) rfl (fun ls hl => ?_)
                        refine lv_iinc (v := nI (j9 + 1)) (lv' := [(6, .int (nI (j9 + 1))), (5, .int ((rkDN (plz (vB σ) (hB σ) (bD σ) (lD σ) (uD σ)) (qD σ) k j9) + 0)), (7, .int (byD (plz (vB σ) (hB σ) (bD σ) (lD σ) (uD σ)) (qD σ) j9 k)), (0, .ref am), (1, .int i), (2, .int (lasF (fun b9 => rkDN (plz (vB σ) (hB σ) (bD σ) (lD σ) (uD σ)) (qD σ) b9 (nD σ)) i k)), (3, .int 1), (4, .int (nI k))]) hx hb dX8_duckByQuacks_123 hl (k := 7) rfl (m_inc _) (by decide) rfl (fun ls hl => ?_)
                        refine lv_goto (tgt := 36) hx hb dX8_duckByQuacks_126 (by decide) ?_
                        have e_58 : rkDN (plz (vB σ) (hB σ) (bD σ) (lD σ) (uD σ)) (qD σ) k (j9 + 1) = (rkDN (plz (vB σ) (hB σ) (bD σ) (lD σ) (uD σ)) (qD σ) k j9) + 0 := (by simp only [rkDN]; rw [rkD_I hqb (show j9 < 6 by omega) (show k < 6 by omega)]; simp [c_16, c_55', c_55, c_57, k_7', k_7, k_18', k_18])
                        exact ih (j9 + 1) (by omega) H locs hP (m_D2 hD) hS ls (by rw [e_58]; exact lv_sub hl [3, 4, 5, 6, 7, 1, 0] rfl)
                      · refine lv_iload hx hb dX8_duckByQuacks_108 (lv_at hl 7 rfl) ?_
                        refine lv_iload hx hb dX8_duckByQuacks_110 (lv_at hl 5 rfl) ?_
                        refine lv_icmp_ge (tgt := 119) hx hb dX8_duckByQuacks_112 (by decide) (fun c_59 => ?_) (fun c_59 => ?_)
                        · have k_60 : k ≤ j9 := (m_leN (a := k) (b := j9) rfl rfl (by omega) (by omega)).mp c_59
                          have k_60' : ¬ (j9 < k) := by omega
                          refine lv_iconst (v := 0) hx hb dX8_duckByQuacks_119 (by decide) ?_
                          refine lv_iadd hx hb dX8_duckByQuacks_120 ?_
                          refine lv_istore (lv' := [(5, .int ((rkDN (plz (vB σ) (hB σ) (bD σ) (lD σ) (uD σ)) (qD σ) k j9) + 0)), (7, .int (byD (plz (vB σ) (hB σ) (bD σ) (lD σ) (uD σ)) (qD σ) j9 k)), (0, .ref am), (1, .int i), (2, .int (lasF (fun b9 => rkDN (plz (vB σ) (hB σ) (bD σ) (lD σ) (uD σ)) (qD σ) b9 (nD σ)) i k)), (3, .int 1), (4, .int (nI k)), (6, .int (nI j9))]) hx hb dX8_duckByQuacks_121 hl (by decide) rfl (fun ls hl => ?_)
                          refine lv_iinc (v := nI (j9 + 1)) (lv' := [(6, .int (nI (j9 + 1))), (5, .int ((rkDN (plz (vB σ) (hB σ) (bD σ) (lD σ) (uD σ)) (qD σ) k j9) + 0)), (7, .int (byD (plz (vB σ) (hB σ) (bD σ) (lD σ) (uD σ)) (qD σ) j9 k)), (0, .ref am), (1, .int i), (2, .int (lasF (fun b9 => rkDN (plz (vB σ) (hB σ) (bD σ) (lD σ) (uD σ)) (qD σ) b9 (nD σ)) i k)), (3, .int 1), (4, .int (nI k))]) hx hb dX8_duckByQuacks_123 hl (k := 7) rfl (m_inc _) (by decide) rfl (fun ls hl => ?_)
                          refine lv_goto (tgt := 36) hx hb dX8_duckByQuacks_126 (by decide) ?_
                          have e_61 : rkDN (plz (vB σ) (hB σ) (bD σ) (lD σ) (uD σ)) (qD σ) k (j9 + 1) = (rkDN (plz (vB σ) (hB σ) (bD σ) (lD σ) (uD σ)) (qD σ) k j9) + 0 := (by simp only [rkDN]; rw [rkD_I hqb (show j9 < 6 by omega) (show k < 6 by omega)]; simp [c_16, c_55', c_55, c_57, c_59, k_7', k_7, k_18', k_18, k_60', k_60])
                          exact ih (j9 + 1) (by omega) H locs hP (m_D2 hD) hS ls (by rw [e_61]; exact lv_sub hl [3, 4, 5, 6, 7, 1, 0] rfl)
                        · have k_62 : ¬ (k ≤ j9) := fun z => c_59 ((m_leN (a := k) (b := j9) rfl rfl (by omega) (by omega)).mpr z)
                          have k_62' : j9 < k := by omega
                          refine lv_iconst (v := 1) hx hb dX8_duckByQuacks_115 (by decide) ?_
                          refine lv_goto (tgt := 120) hx hb dX8_duckByQuacks_116 (by decide) ?_
                          refine lv_iadd hx hb dX8_duckByQuacks_120 ?_
                          refine lv_istore (lv' := [(5, .int ((rkDN (plz (vB σ) (hB σ) (bD σ) (lD σ) (uD σ)) (qD σ) k j9) + 1)), (7, .int (byD (plz (vB σ) (hB σ) (bD σ) (lD σ) (uD σ)) (qD σ) j9 k)), (0, .ref am), (1, .int i), (2, .int (lasF (fun b9 => rkDN (plz (vB σ) (hB σ) (bD σ) (lD σ) (uD σ)) (qD σ) b9 (nD σ)) i k)), (3, .int 1), (4, .int (nI k)), (6, .int (nI j9))]) hx hb dX8_duckByQuacks_121 hl (by decide) rfl (fun ls hl => ?_)
                          refine lv_iinc (v := nI (j9 + 1)) (lv' := [(6, .int (nI (j9 + 1))), (5, .int ((rkDN (plz (vB σ) (hB σ) (bD σ) (lD σ) (uD σ)) (qD σ) k j9) + 1)), (7, .int (byD (plz (vB σ) (hB σ) (bD σ) (lD σ) (uD σ)) (qD σ) j9 k)), (0, .ref am), (1, .int i), (2, .int (lasF (fun b9 => rkDN (plz (vB σ) (hB σ) (bD σ) (lD σ) (uD σ)) (qD σ) b9 (nD σ)) i k)), (3, .int 1), (4, .int (nI k))]) hx hb dX8_duckByQuacks_123 hl (k := 7) rfl (m_inc _) (by decide) rfl (fun ls hl => ?_)
                          refine lv_goto (tgt := 36) hx hb dX8_duckByQuacks_126 (by decide) ?_
                          have e_63 : rkDN (plz (vB σ) (hB σ) (bD σ) (lD σ) (uD σ)) (qD σ) k (j9 + 1) = (rkDN (plz (vB σ) (hB σ) (bD σ) (lD σ) (uD σ)) (qD σ) k j9) + 1 := (by simp only [rkDN]; rw [rkD_I hqb (show j9 < 6 by omega) (show k < 6 by omega)]; simp [c_16, c_55', c_55, c_57, c_59, k_7', k_7, k_18', k_18, k_62', k_62])
                          exact ih (j9 + 1) (by omega) H locs hP (m_D2 hD) hS ls (by rw [e_63]; exact lv_sub hl [3, 4, 5, 6, 7, 1, 0] rfl)
          exact L_9 (nD σ) 0 (by omega) _ _ hP (m_D2 hD) hS ls (lv_sub hl [2, 3, 4, 5, 6, 1, 0] rfl)
  exact L_1 (nD σ) 0 (by omega) _ _ hP (m_D2 hD) hS ls (lv_sub hl [3, 4, 2, 1, 0] rfl)

set_option maxRecDepth 100000 in
set_option maxHeartbeats 1000000 in
theorem c_X8_duckByQuacks_no (l : Launch) (G : va_G) (cy : Nat → ClassId) (am aS aBf aAs aSv aPa aOu aTx aCo K OM LN PO CM : Nat) (iS th iw ea fa : Int32) (σ : St) (i : Int32) (ho : Ok σ) (hF : ¬ inI i (nI (nD σ)) = true) : WC l yX8_duckByQuacks wsX8_duckByQuacks { frames := 2, cells := 0, slots := 0, locals := 43 } G (PB G cy [(am, .inr (12, [.ref aS, .ref aBf, .ref aAs, .ref aSv, .int iS, .ref aPa, .int (nI K), .int th, .ref aOu, .int (nI OM), .ref aTx, .int (nI LN), .int (nI PO), .int iw, .int ea, .int fa, .ref aCo, .int (nI CM)])), (aS, .inl (cy 2, 89, .inl (encS σ)))]) [.ref am, .int i] [(am, .inr (12, [.ref aS, .ref aBf, .ref aAs, .ref aSv, .int iS, .ref aPa, .int (nI K), .int th, .ref aOu, .int (nI OM), .ref aTx, .int (nI LN), .int (nI PO), .int iw, .int ea, .int fa, .ref aCo, .int (nI CM)])), (aS, .inl (cy 2, 89, .inl (encS σ)))] [(am, .inr (12, [.ref aS, .ref aBf, .ref aAs, .ref aSv, .int iS, .ref aPa, .int (nI K), .int 1, .ref aOu, .int (nI OM), .ref aTx, .int (nI LN), .int (nI PO), .int iw, .int ea, .int fa, .ref aCo, .int (nI CM)])), (aS, .inl (cy 2, 89, .inl (encS σ)))] (some (.int 0)) := by
  refine WC.ofW (cc := cX8_duckByQuacks) (maxL := 8) (ret := (some .int)) (by decide) rfl (Nat.le_of_ble_eq_true rfl) ?_
  intro p e s m below meth c S9 hr hlocks hPB hD hS ls hl
  obtain ⟨hx, hb, hml, hown, hts⟩ := id S9
  obtain ⟨hP, hK⟩ := hPB
  have hl : lv_has ls 8 [(0, .ref am), (1, .int i)] := hl
  have hP : va_P G vwCl [(am, .inr (12, [.ref aS, .ref aBf, .ref aAs, .ref aSv, .int iS, .ref aPa, .int (nI K), .int th, .ref aOu, .int (nI OM), .ref aTx, .int (nI LN), .int (nI PO), .int iw, .int ea, .int fa, .ref aCo, .int (nI CM)])), (aS, .inl (cy 2, 89, .inl (encT (nB σ) (vB σ) (hB σ) (pB σ) (mB σ) (nD σ) (bD σ) (lD σ) (uD σ) (qD σ) (wD σ) (nE σ) (kE σ) (bE σ) (lE σ) (tT σ) (dT σ) (aT σ) (rT σ) (hT σ) (xT σ))))] s.heap := hP
  have hD0 := hD
  have hD : va_D (wA [(am, .inr (12, [.ref aS, .ref aBf, .ref aAs, .ref aSv, .int iS, .ref aPa, .int (nI K), .int th, .ref aOu, .int (nI OM), .ref aTx, .int (nI LN), .int (nI PO), .int iw, .int ea, .int fa, .ref aCo, .int (nI CM)])), (aS, .inl (cy 2, 89, .inl (encS σ)))]) [(am, .inr (12, [.ref aS, .ref aBf, .ref aAs, .ref aSv, .int iS, .ref aPa, .int (nI K), .int th, .ref aOu, .int (nI OM), .ref aTx, .int (nI LN), .int (nI PO), .int iw, .int ea, .int fa, .ref aCo, .int (nI CM)])), (aS, .inl (cy 2, 89, .inl (encT (nB σ) (vB σ) (hB σ) (pB σ) (mB σ) (nD σ) (bD σ) (lD σ) (uD σ) (qD σ) (wD σ) (nE σ) (kE σ) (bE σ) (lE σ) (tT σ) (dT σ) (aT σ) (rT σ) (hT σ) (xT σ))))] := hD
  have hi12 : ∀ w ∈ wsX80, w ∈ wsX8_duckByQuacks := by decide +kernel
  have hf9 := hts (.fieldLink RX8 9 "BathLeagueModel" "s" "[I") (by decide +kernel)
  have hN0 := ho.1
  have hM0 := ho.2.1
  have hE0 := ho.2.2.1
  refine lv_iconst (v := 0) hx hb dX8_duckByQuacks_0 (by decide) ?_
  refine lv_istore_n (lv' := [(2, .int 0), (0, .ref am), (1, .int i)]) hx hb dX8_duckByQuacks_1 rfl hl (by decide) rfl (fun ls hl => ?_)
  refine lv_aload_n hx hb dX8_duckByQuacks_2 rfl (lv_at hl 1 rfl) ?_
  refine lv_aload_n hx hb dX8_duckByQuacks_3 rfl (lv_at hl 1 rfl) ?_
  refine lv_iload_n hx hb dX8_duckByQuacks_4 rfl (lv_at hl 2 rfl) ?_
  refine c_roVi S9 (c_X8_isDuck l G cy am aS aBf aAs aSv aPa aOu aTx aCo K OM LN PO CM iS th iw ea fa (nB σ) (vB σ) (hB σ) (pB σ) (mB σ) (nD σ) (bD σ) (lD σ) (uD σ) (qD σ) (wD σ) (nE σ) (kE σ) (bE σ) (lE σ) (tT σ) (dT σ) (aT σ) (rT σ) (hT σ) (xT σ) i ho.2.1) (cwV 1 hts gX8_duckByQuacks_X8_isDuck rfl rfl rfl (by decide +kernel) ⟨Nat.le_of_ble_eq_true rfl, Nat.le_of_ble_eq_true rfl⟩) PB.blind (va_recv hK.1 hP (ci := 12) (q0 := 0) rfl rfl) (PB.at hK (m_Ppart hP [0, 1] rfl)) rfl hl.1 rfl (Nat.le_of_ble_eq_true rfl) ⟨Nat.zero_le _, Nat.zero_le _⟩ dX8_duckByQuacks_5 ?_
  refine lv_t0 (if_neg hF) ?_
  refine c_wcVi (ws' := [(am, .inr (12, [.ref aS, .ref aBf, .ref aAs, .ref aSv, .int iS, .ref aPa, .int (nI K), .int 1, .ref aOu, .int (nI OM), .ref aTx, .int (nI LN), .int (nI PO), .int iw, .int ea, .int fa, .ref aCo, .int (nI CM)])), (aS, .inl (cy 2, 89, .inl (encT (nB σ) (vB σ) (hB σ) (pB σ) (mB σ) (nD σ) (bD σ) (lD σ) (uD σ) (qD σ) (wD σ) (nE σ) (kE σ) (bE σ) (lE σ) (tT σ) (dT σ) (aT σ) (rT σ) (hT σ) (xT σ))))]) S9 (c_X8_isThere_0 l G cy am aS aBf aAs aSv aPa aOu aTx aCo K OM LN PO CM iS th iw ea fa (nB σ) (vB σ) (hB σ) (pB σ) (mB σ) (nD σ) (bD σ) (lD σ) (uD σ) (qD σ) (wD σ) (nE σ) (kE σ) (bE σ) (lE σ) (tT σ) (dT σ) (aT σ) (rT σ) (hT σ) (xT σ)) (cwV 1 hts gX8_duckByQuacks_X8_isThere rfl rfl rfl (by decide +kernel) ⟨Nat.le_of_ble_eq_true rfl, Nat.le_of_ble_eq_true rfl⟩) PB.blind (va_recv hK.1 hP (ci := 12) (q0 := 0) rfl rfl) (PB.at hK (m_Ppart hP [0, 1] rfl)) hP hD hS [0, 1] rfl rfl m_f2 rfl rfl hl.1 rfl (Nat.le_of_ble_eq_true rfl) ⟨Nat.zero_le _, Nat.zero_le _⟩ dX8_duckByQuacks_8 (fun H locs hP hD hS => ?_)
  refine lv_istore_n (lv' := [(3, .int 0), (2, .int 0), (0, .ref am), (1, .int i)]) hx hb dX8_duckByQuacks_11 rfl hl (by decide) rfl (fun ls hl => ?_)
  refine lv_iconst (v := 0) hx hb dX8_duckByQuacks_12 (by decide) ?_
  refine lv_istore (lv' := [(4, .int 0), (3, .int 0), (2, .int 0), (0, .ref am), (1, .int i)]) hx hb dX8_duckByQuacks_13 hl (by decide) rfl (fun ls hl => ?_)
  refine lv_iload hx hb dX8_duckByQuacks_15 (lv_at hl 0 rfl) ?_
  refine lv_aload_n hx hb dX8_duckByQuacks_17 rfl (lv_at hl 3 rfl) ?_
  refine va_get (D := G) (ci := 12) (v := .ref aS) (C := RX8) (T := TX8) (N := 18) hx hb hts hi12 hown hK.1 hP 0 rfl rfl 0 (by decide) hf9 (fun _ h9 => h9) rfl dX8_duckByQuacks_18 ?_
  refine lv_iconst (v := 1) hx hb dX8_duckByQuacks_21 (by decide) ?_
  refine m_iald hx hb hK hP 1 (k := 1) rfl rfl (by omega) (Nat.le_of_ble_eq_true rfl) dX8_duckByQuacks_22 ?_
  refine lv_t0 (encR_1 rfl) ?_
  refine lv_icmp_ge (tgt := 148) hx hb dX8_duckByQuacks_23 (by decide) (fun c_1 => ?_) (fun c_1 => ?_)
  · have k_2 : (nD σ) ≤ 0 := (m_leN (a := (nD σ)) (b := 0) rfl rfl (by omega) (by omega)).mp c_1
    have k_2' : ¬ (0 < (nD σ)) := by omega
    refine lv_iload_n hx hb dX8_duckByQuacks_148 rfl (lv_at hl 2 rfl) ?_
    exact wc_iret hx hb hr hlocks hP hS rfl dX8_duckByQuacks_149
  · have k_3 : ¬ ((nD σ) ≤ 0) := fun z => c_1 ((m_leN (a := (nD σ)) (b := 0) rfl rfl (by omega) (by omega)).mpr z)
    have k_3' : 0 < (nD σ) := by omega
    refine lv_iload_n hx hb dX8_duckByQuacks_26 rfl (lv_at hl 1 rfl) ?_
    refine lv_if_eq (tgt := 148) hx hb dX8_duckByQuacks_27 (by decide) (fun c_4 => ?_) (fun c_4 => ?_)
    · refine lv_iload_n hx hb dX8_duckByQuacks_148 rfl (lv_at hl 2 rfl) ?_
      exact wc_iret hx hb hr hlocks hP hS rfl dX8_duckByQuacks_149
    · exact absurd c_4 (by decide)

set_option maxRecDepth 100000 in
set_option maxHeartbeats 1000000 in
theorem c_X8_litresToReach_ok (l : Launch) (G : va_G) (cy : Nat → ClassId) (am aS aBf aAs aSv aPa aOu aTx aCo K OM LN PO CM : Nat) (iS th iw ea fa : Int32) (σ : St) (j : Nat) (t g R9 : Int32) (ho : Ok σ) (hj : j < nB σ) (hbd : Bd (vB σ) (hB σ)) (ht9 : inR t 0 2 = true) (hg9 : inR g 0 99 = true) (hwt : wet (vB σ) j = true) (hR0 : atF (fun k9 => (if (if t = 0 then rdeg (hB σ j + nI k9 * (10 + 30 * t)) (vB σ j + nI k9) ≤ g else ¬ rdeg (hB σ j + nI k9 * (10 + 30 * t)) (vB σ j + nI k9) < g) then (1 : Int32) else 0)) 1 0 (101 - bx (vB σ j)) = R9) (hR1 : ¬ R9 = -1) : WC l yX8_litresToReach wsX8_litresToReach { frames := 2, cells := 0, slots := 0, locals := 43 } G (PB G cy [(am, .inr (12, [.ref aS, .ref aBf, .ref aAs, .ref aSv, .int iS, .ref aPa, .int (nI K), .int th, .ref aOu, .int (nI OM), .ref aTx, .int (nI LN), .int (nI PO), .int iw, .int ea, .int fa, .ref aCo, .int (nI CM)])), (aS, .inl (cy 2, 89, .inl (encS σ)))]) [.ref am, .int (nI j), .int t, .int g] [(am, .inr (12, [.ref aS, .ref aBf, .ref aAs, .ref aSv, .int iS, .ref aPa, .int (nI K), .int th, .ref aOu, .int (nI OM), .ref aTx, .int (nI LN), .int (nI PO), .int iw, .int ea, .int fa, .ref aCo, .int (nI CM)])), (aS, .inl (cy 2, 89, .inl (encS σ)))] [(am, .inr (12, [.ref aS, .ref aBf, .ref aAs, .ref aSv, .int iS, .ref aPa, .int (nI K), .int 0, .ref aOu, .int (nI OM), .ref aTx, .int (nI LN), .int (nI PO), .int iw, .int ea, .int fa, .ref aCo, .int (nI CM)])), (aS, .inl (cy 2, 89, .inl (encS σ)))] (some (.int R9)) := by
  refine WC.ofW (cc := cX8_litresToReach) (maxL := 6) (ret := (some .int)) (by decide) rfl (Nat.le_of_ble_eq_true rfl) ?_
  intro p e s m below meth c S9 hr hlocks hPB hD hS ls hl
  obtain ⟨hx, hb, hml, hown, hts⟩ := id S9
  obtain ⟨hP, hK⟩ := hPB
  have hl : lv_has ls 6 [(0, .ref am), (1, .int (nI j)), (2, .int t), (3, .int g)] := hl
  have hP : va_P G vwCl [(am, .inr (12, [.ref aS, .ref aBf, .ref aAs, .ref aSv, .int iS, .ref aPa, .int (nI K), .int th, .ref aOu, .int (nI OM), .ref aTx, .int (nI LN), .int (nI PO), .int iw, .int ea, .int fa, .ref aCo, .int (nI CM)])), (aS, .inl (cy 2, 89, .inl (encT (nB σ) (vB σ) (hB σ) (pB σ) (mB σ) (nD σ) (bD σ) (lD σ) (uD σ) (qD σ) (wD σ) (nE σ) (kE σ) (bE σ) (lE σ) (tT σ) (dT σ) (aT σ) (rT σ) (hT σ) (xT σ))))] s.heap := hP
  have hD0 := hD
  have hD : va_D (wA [(am, .inr (12, [.ref aS, .ref aBf, .ref aAs, .ref aSv, .int iS, .ref aPa, .int (nI K), .int th, .ref aOu, .int (nI OM), .ref aTx, .int (nI LN), .int (nI PO), .int iw, .int ea, .int fa, .ref aCo, .int (nI CM)])), (aS, .inl (cy 2, 89, .inl (encS σ)))]) [(am, .inr (12, [.ref aS, .ref aBf, .ref aAs, .ref aSv, .int iS, .ref aPa, .int (nI K), .int th, .ref aOu, .int (nI OM), .ref aTx, .int (nI LN), .int (nI PO), .int iw, .int ea, .int fa, .ref aCo, .int (nI CM)])), (aS, .inl (cy 2, 89, .inl (encT (nB σ) (vB σ) (hB σ) (pB σ) (mB σ) (nD σ) (bD σ) (lD σ) (uD σ) (qD σ) (wD σ) (nE σ) (kE σ) (bE σ) (lE σ) (tT σ) (dT σ) (aT σ) (rT σ) (hT σ) (xT σ))))] := hD
  have hi12 : ∀ w ∈ wsX80, w ∈ wsX8_litresToReach := by decide +kernel
  have hf42 := hts (.fieldLink RX8 42 "BathLeagueModel" "thrown" "I") (by decide +kernel)
  have hN0 := ho.1
  have hM0 := ho.2.1
  have hE0 := ho.2.2.1
  have hF := m_inI hj (by omega)
  have hvb := bx_v hbd (show j < 5 by omega)
  have hv9 : vB σ j = nI (bx (vB σ j)) := hvb.1
  have hv8 := hvb.2
  have hvp := bx_p hbd (show j < 5 by omega) hwt
  refine lv_aload_n hx hb dX8_litresToReach_0 rfl (lv_at hl 0 rfl) ?_
  refine lv_aload_n hx hb dX8_litresToReach_1 rfl (lv_at hl 0 rfl) ?_
  refine lv_iload_n hx hb dX8_litresToReach_2 rfl (lv_at hl 1 rfl) ?_
  refine c_roVi S9 (c_X8_isBath l G cy am aS aBf aAs aSv aPa aOu aTx aCo K OM LN PO CM iS th iw ea fa (nB σ) (vB σ) (hB σ) (pB σ) (mB σ) (nD σ) (bD σ) (lD σ) (uD σ) (qD σ) (wD σ) (nE σ) (kE σ) (bE σ) (lE σ) (tT σ) (dT σ) (aT σ) (rT σ) (hT σ) (xT σ) (nI j) ho.1) (cwV 1 hts gX8_litresToReach_X8_isBath rfl rfl rfl (by decide +kernel) ⟨Nat.le_of_ble_eq_true rfl, Nat.le_of_ble_eq_true rfl⟩) PB.blind (va_recv hK.1 hP (ci := 12) (q0 := 0) rfl rfl) (PB.at hK (m_Ppart hP [0, 1] rfl)) rfl hl.1 rfl (Nat.le_of_ble_eq_true rfl) ⟨Nat.zero_le _, Nat.zero_le _⟩ dX8_litresToReach_3 ?_
  refine lv_t0 (if_pos hF) ?_
  refine lv_if_ne (tgt := 13) hx hb dX8_litresToReach_6 (by decide) (fun c_1 => ?_) (fun c_1 => ?_)
  · refine lv_iload_n hx hb dX8_litresToReach_13 rfl (lv_at hl 2 rfl) ?_
    refine lv_iconst (v := 0) hx hb dX8_litresToReach_14 (by decide) ?_
    refine lv_iconst (v := 2) hx hb dX8_litresToReach_15 (by decide) ?_
    refine c_roSi S9 (c_X8_in l G cy t 0 2) (va_cwS 3 hts gX8_litresToReach_X8_in rfl rfl rfl (by decide +kernel) ⟨Nat.le_of_ble_eq_true rfl, Nat.le_of_ble_eq_true rfl⟩) PB.blind (PB.at hK (m_Ppart hP [] rfl)) rfl hl.1 rfl (Nat.le_of_ble_eq_true rfl) ⟨Nat.zero_le _, Nat.zero_le _⟩ dX8_litresToReach_16 ?_
    refine lv_t0 (if_pos ht9) ?_
    refine lv_if_eq (tgt := 32) hx hb dX8_litresToReach_19 (by decide) (fun c_2 => ?_) (fun c_2 => ?_)
    · exact absurd c_2 (by decide)
    · refine lv_iload_n hx hb dX8_litresToReach_22 rfl (lv_at hl 3 rfl) ?_
      refine lv_iconst (v := 0) hx hb dX8_litresToReach_23 (by decide) ?_
      refine lv_bipush (v := 99) hx hb dX8_litresToReach_24 (by decide) ?_
      refine c_roSi S9 (c_X8_in l G cy g 0 99) (va_cwS 3 hts gX8_litresToReach_X8_in rfl rfl rfl (by decide +kernel) ⟨Nat.le_of_ble_eq_true rfl, Nat.le_of_ble_eq_true rfl⟩) PB.blind (PB.at hK (m_Ppart hP [] rfl)) rfl hl.1 rfl (Nat.le_of_ble_eq_true rfl) ⟨Nat.zero_le _, Nat.zero_le _⟩ dX8_litresToReach_26 ?_
      refine lv_t0 (if_pos hg9) ?_
      refine lv_if_ne (tgt := 36) hx hb dX8_litresToReach_29 (by decide) (fun c_3 => ?_) (fun c_3 => ?_)
      · refine lv_aload_n hx hb dX8_litresToReach_36 rfl (lv_at hl 0 rfl) ?_
        refine lv_iload_n hx hb dX8_litresToReach_37 rfl (lv_at hl 1 rfl) ?_
        refine c_roVi S9 (c_X8_isWet l G cy am aS aBf aAs aSv aPa aOu aTx aCo K OM LN PO CM iS th iw ea fa (nB σ) (vB σ) (hB σ) (pB σ) (mB σ) (nD σ) (bD σ) (lD σ) (uD σ) (qD σ) (wD σ) (nE σ) (kE σ) (bE σ) (lE σ) (tT σ) (dT σ) (aT σ) (rT σ) (hT σ) (xT σ) j (by omega)) (cwV 1 hts gX8_litresToReach_X8_isWet rfl rfl rfl (by decide +kernel) ⟨Nat.le_of_ble_eq_true rfl, Nat.le_of_ble_eq_true rfl⟩) PB.blind (va_recv hK.1 hP (ci := 12) (q0 := 0) rfl rfl) (PB.at hK (m_Ppart hP [0, 1] rfl)) rfl hl.1 rfl (Nat.le_of_ble_eq_true rfl) ⟨Nat.zero_le _, Nat.zero_le _⟩ dX8_litresToReach_38 ?_
        refine lv_t0 (if_pos hwt) ?_
        refine lv_if_ne (tgt := 48) hx hb dX8_litresToReach_41 (by decide) (fun c_4 => ?_) (fun c_4 => ?_)
        · refine lv_iconst (v := 0) hx hb dX8_litresToReach_48 (by decide) ?_
          refine va_put (D := G) (ci := 12) (v := .int 0) (ty := .int) (C := RX8) (T := TX8) (N := 18) hx hb hts hi12 tyX8 tyX8_ok nmX8 hown hK.1 hP hD hS 0 rfl rfl 7 (by decide) hf42 (fun _ h9 => h9) rfl (by decide +kernel) rfl rfl (Nat.le_of_ble_eq_true rfl) dX8_litresToReach_49 (fun H locs hP hD hS => ?_)
          have hP : va_P G vwCl [(am, .inr (12, [.ref aS, .ref aBf, .ref aAs, .ref aSv, .int iS, .ref aPa, .int (nI K), .int 0, .ref aOu, .int (nI OM), .ref aTx, .int (nI LN), .int (nI PO), .int iw, .int ea, .int fa, .ref aCo, .int (nI CM)])), (aS, .inl (cy 2, 89, .inl (encT (nB σ) (vB σ) (hB σ) (pB σ) (mB σ) (nD σ) (bD σ) (lD σ) (uD σ) (qD σ) (wD σ) (nE σ) (kE σ) (bE σ) (lE σ) (tT σ) (dT σ) (aT σ) (rT σ) (hT σ) (xT σ))))] H := hP
          have hD : va_D (wA [(am, .inr (12, [.ref aS, .ref aBf, .ref aAs, .ref aSv, .int iS, .ref aPa, .int (nI K), .int th, .ref aOu, .int (nI OM), .ref aTx, .int (nI LN), .int (nI PO), .int iw, .int ea, .int fa, .ref aCo, .int (nI CM)])), (aS, .inl (cy 2, 89, .inl (encS σ)))]) [(am, .inr (12, [.ref aS, .ref aBf, .ref aAs, .ref aSv, .int iS, .ref aPa, .int (nI K), .int 0, .ref aOu, .int (nI OM), .ref aTx, .int (nI LN), .int (nI PO), .int iw, .int ea, .int fa, .ref aCo, .int (nI CM)])), (aS, .inl (cy 2, 89, .inl (encT (nB σ) (vB σ) (hB σ) (pB σ) (mB σ) (nD σ) (bD σ) (lD σ) (uD σ) (qD σ) (wD σ) (nE σ) (kE σ) (bE σ) (lE σ) (tT σ) (dT σ) (aT σ) (rT σ) (hT σ) (xT σ))))] := hD
          refine lv_aload_n hx hb dX8_litresToReach_52 rfl (lv_at hl 0 rfl) ?_
          refine va_get (D := G) (ci := 12) (v := .int 0) (C := RX8) (T := TX8) (N := 18) hx hb hts hi12 hown hK.1 hP 0 rfl rfl 7 (by decide) hf42 (fun _ h9 => h9) rfl dX8_litresToReach_53 ?_
          refine lv_if_le (tgt := 61) hx hb dX8_litresToReach_56 (by decide) (fun c_5 => ?_) (fun c_5 => ?_)
          · refine lv_iconst (v := 0) hx hb dX8_litresToReach_61 (by decide) ?_
            refine lv_istore (lv' := [(4, .int 0), (0, .ref am), (1, .int (nI j)), (2, .int t), (3, .int g)]) hx hb dX8_litresToReach_62 hl (by decide) rfl (fun ls hl => ?_)
            have L_6 : ∀ (d k : Nat), k + d = (101 - bx (vB σ j)) → (atF (fun k9 => (if (if t = 0 then rdeg (hB σ j + nI k9 * (10 + 30 * t)) (vB σ j + nI k9) ≤ g else ¬ rdeg (hB σ j + nI k9 * (10 + 30 * t)) (vB σ j + nI k9) < g) then (1 : Int32) else 0)) 1 k d = R9) → ∀ (H : Heap) (locs : List Loc), va_P G vwCl [(am, .inr (12, [.ref aS, .ref aBf, .ref aAs, .ref aSv, .int iS, .ref aPa, .int (nI K), .int 0, .ref aOu, .int (nI OM), .ref aTx, .int (nI LN), .int (nI PO), .int iw, .int ea, .int fa, .ref aCo, .int (nI CM)])), (aS, .inl (cy 2, 89, .inl (encS σ)))] H → va_D (wA [(am, .inr (12, [.ref aS, .ref aBf, .ref aAs, .ref aSv, .int iS, .ref aPa, .int (nI K), .int th, .ref aOu, .int (nI OM), .ref aTx, .int (nI LN), .int (nI PO), .int iw, .int ea, .int fa, .ref aCo, .int (nI CM)])), (aS, .inl (cy 2, 89, .inl (encS σ)))]) [(am, .inr (12, [.ref aS, .ref aBf, .ref aAs, .ref aSv, .int iS, .ref aPa, .int (nI K), .int 0, .ref aOu, .int (nI OM), .ref aTx, .int (nI LN), .int (nI PO), .int iw, .int ea, .int fa, .ref aCo, .int (nI CM)])), (aS, .inl (cy 2, 89, .inl (encS σ)))] → va_S (wA [(am, .inr (12, [.ref aS, .ref aBf, .ref aAs, .ref aSv, .int iS, .ref aPa, .int (nI K), .int th, .ref aOu, .int (nI OM), .ref aTx, .int (nI LN), .int (nI PO), .int iw, .int ea, .int fa, .ref aCo, .int (nI CM)])), (aS, .inl (cy 2, 89, .inl (encS σ)))]) s.heap H locs → ∀ ls : Array Slot, lv_has ls 6 [(0, .ref am), (1, .int (nI j)), (2, .int t), (3, .int g), (4, .int (nI k))] → W p l e ({ frames := 2, cells := 0, slots := 0, locals := 43 } : Room) s m ([.ref am, .int (nI j), .int t, .int g] : List Value).toArray below meth c H locs 0 0 (wcZ below ([.ref am, .int (nI j), .int t, .int g] : List Value).toArray s G [(am, .inr (12, [.ref aS, .ref aBf, .ref aAs, .ref aSv, .int iS, .ref aPa, .int (nI K), .int th, .ref aOu, .int (nI OM), .ref aTx, .int (nI LN), .int (nI PO), .int iw, .int ea, .int fa, .ref aCo, .int (nI CM)])), (aS, .inl (cy 2, 89, .inl (encS σ)))] [(am, .inr (12, [.ref aS, .ref aBf, .ref aAs, .ref aSv, .int iS, .ref aPa, .int (nI K), .int 0, .ref aOu, .int (nI OM), .ref aTx, .int (nI LN), .int (nI PO), .int iw, .int ea, .int fa, .ref aCo, .int (nI CM)])), (aS, .inl (cy 2, 89, .inl (encS σ)))] (some (.int R9))) (F0 m 64 ls []) := by
              intro d
              induction d with
              | zero =>
                intro k hkk hR H locs hP hD hS ls hl
                have hP : va_P G vwCl [(am, .inr (12, [.ref aS, .ref aBf, .ref aAs, .ref aSv, .int iS, .ref aPa, .int (nI K), .int 0, .ref aOu, .int (nI OM), .ref aTx, .int (nI LN), .int (nI PO), .int iw, .int ea, .int fa, .ref aCo, .int (nI CM)])), (aS, .inl (cy 2, 89, .inl (encT (nB σ) (vB σ) (hB σ) (pB σ) (mB σ) (nD σ) (bD σ) (lD σ) (uD σ) (qD σ) (wD σ) (nE σ) (kE σ) (bE σ) (lE σ) (tT σ) (dT σ) (aT σ) (rT σ) (hT σ) (xT σ))))] H := hP
                have hD : va_D (wA [(am, .inr (12, [.ref aS, .ref aBf, .ref aAs, .ref aSv, .int iS, .ref aPa, .int (nI K), .int th, .ref aOu, .int (nI OM), .ref aTx, .int (nI LN), .int (nI PO), .int iw, .int ea, .int fa, .ref aCo, .int (nI CM)])), (aS, .inl (cy 2, 89, .inl (encS σ)))]) [(am, .inr (12, [.ref aS, .ref aBf, .ref aAs, .ref aSv, .int iS, .ref aPa, .int (nI K), .int 0, .ref aOu, .int (nI OM), .ref aTx, .int (nI LN), .int (nI PO), .int iw, .int ea, .int fa, .ref aCo, .int (nI CM)])), (aS, .inl (cy 2, 89, .inl (encT (nB σ) (vB σ) (hB σ) (pB σ) (mB σ) (nD σ) (bD σ) (lD σ) (uD σ) (qD σ) (wD σ) (nE σ) (kE σ) (bE σ) (lE σ) (tT σ) (dT σ) (aT σ) (rT σ) (hT σ) (xT σ))))] := hD
                refine lv_aload_n hx hb dX8_litresToReach_64 rfl (lv_at hl 0 rfl) ?_
                refine lv_iload_n hx hb dX8_litresToReach_65 rfl (lv_at hl 1 rfl) ?_
                refine lv_iconst (v := 0) hx hb dX8_litresToReach_66 (by decide) ?_
                refine c_roVi S9 (c_X8_of_v l G cy am aS aBf aAs aSv aPa aOu aTx aCo K OM LN PO CM iS 0 iw ea fa (nB σ) (vB σ) (hB σ) (pB σ) (mB σ) (nD σ) (bD σ) (lD σ) (uD σ) (qD σ) (wD σ) (nE σ) (kE σ) (bE σ) (lE σ) (tT σ) (dT σ) (aT σ) (rT σ) (hT σ) (xT σ) j (by omega)) (cwV 2 hts gX8_litresToReach_X8_of rfl rfl rfl (by decide +kernel) ⟨Nat.le_of_ble_eq_true rfl, Nat.le_of_ble_eq_true rfl⟩) PB.blind (va_recv hK.1 hP (ci := 12) (q0 := 0) rfl rfl) (PB.at hK (m_Ppart hP [0, 1] rfl)) rfl hl.1 rfl (Nat.le_of_ble_eq_true rfl) ⟨Nat.zero_le _, Nat.zero_le _⟩ dX8_litresToReach_67 ?_
                refine lv_iload hx hb dX8_litresToReach_70 (lv_at hl 4 rfl) ?_
                refine lv_iadd hx hb dX8_litresToReach_72 ?_
                refine lv_bipush (v := 100) hx hb dX8_litresToReach_73 (by decide) ?_
                refine lv_icmp_gt (tgt := 132) hx hb dX8_litresToReach_75 (by decide) (fun c_7 => ?_) (fun c_7 => ?_)
                · have k_8 : 100 < (bx (vB σ j)) + k := (m_ltN (a := 100) (b := (bx (vB σ j)) + k) rfl (m_add hv9 rfl) (by omega) (by omega)).mp c_7
                  have k_8' : ¬ ((bx (vB σ j)) + k ≤ 100) := by omega
                  exact absurd hR.symm hR1
                · have k_9 : ¬ (100 < (bx (vB σ j)) + k) := fun z => c_7 ((m_ltN (a := 100) (b := (bx (vB σ j)) + k) rfl (m_add hv9 rfl) (by omega) (by omega)).mpr z)
                  have k_9' : (bx (vB σ j)) + k ≤ 100 := by omega
                  exfalso; omega
              | succ d ih =>
                intro k hkk hR H locs hP hD hS ls hl
                have hP : va_P G vwCl [(am, .inr (12, [.ref aS, .ref aBf, .ref aAs, .ref aSv, .int iS, .ref aPa, .int (nI K), .int 0, .ref aOu, .int (nI OM), .ref aTx, .int (nI LN), .int (nI PO), .int iw, .int ea, .int fa, .ref aCo, .int (nI CM)])), (aS, .inl (cy 2, 89, .inl (encT (nB σ) (vB σ) (hB σ) (pB σ) (mB σ) (nD σ) (bD σ) (lD σ) (uD σ) (qD σ) (wD σ) (nE σ) (kE σ) (bE σ) (lE σ) (tT σ) (dT σ) (aT σ) (rT σ) (hT σ) (xT σ))))] H := hP
                have hD : va_D (wA [(am, .inr (12, [.ref aS, .ref aBf, .ref aAs, .ref aSv, .int iS, .ref aPa, .int (nI K), .int th, .ref aOu, .int (nI OM), .ref aTx, .int (nI LN), .int (nI PO), .int iw, .int ea, .int fa, .ref aCo, .int (nI CM)])), (aS, .inl (cy 2, 89, .inl (encS σ)))]) [(am, .inr (12, [.ref aS, .ref aBf, .ref aAs, .ref aSv, .int iS, .ref aPa, .int (nI K), .int 0, .ref aOu, .int (nI OM), .ref aTx, .int (nI LN), .int (nI PO), .int iw, .int ea, .int fa, .ref aCo, .int (nI CM)])), (aS, .inl (cy 2, 89, .inl (encT (nB σ) (vB σ) (hB σ) (pB σ) (mB σ) (nD σ) (bD σ) (lD σ) (uD σ) (qD σ) (wD σ) (nE σ) (kE σ) (bE σ) (lE σ) (tT σ) (dT σ) (aT σ) (rT σ) (hT σ) (xT σ))))] := hD
                refine lv_aload_n hx hb dX8_litresToReach_64 rfl (lv_at hl 0 rfl) ?_
                refine lv_iload_n hx hb dX8_litresToReach_65 rfl (lv_at hl 1 rfl) ?_
                refine lv_iconst (v := 0) hx hb dX8_litresToReach_66 (by decide) ?_
                refine c_roVi S9 (c_X8_of_v l G cy am aS aBf aAs aSv aPa aOu aTx aCo K OM LN PO CM iS 0 iw ea fa (nB σ) (vB σ) (hB σ) (pB σ) (mB σ) (nD σ) (bD σ) (lD σ) (uD σ) (qD σ) (wD σ) (nE σ) (kE σ) (bE σ) (lE σ) (tT σ) (dT σ) (aT σ) (rT σ) (hT σ) (xT σ) j (by omega)) (cwV 2 hts gX8_litresToReach_X8_of rfl rfl rfl (by decide +kernel) ⟨Nat.le_of_ble_eq_true rfl, Nat.le_of_ble_eq_true rfl⟩) PB.blind (va_recv hK.1 hP (ci := 12) (q0 := 0) rfl rfl) (PB.at hK (m_Ppart hP [0, 1] rfl)) rfl hl.1 rfl (Nat.le_of_ble_eq_true rfl) ⟨Nat.zero_le _, Nat.zero_le _⟩ dX8_litresToReach_67 ?_
                refine lv_iload hx hb dX8_litresToReach_70 (lv_at hl 4 rfl) ?_
                refine lv_iadd hx hb dX8_litresToReach_72 ?_
                refine lv_bipush (v := 100) hx hb dX8_litresToReach_73 (by decide) ?_
                refine lv_icmp_gt (tgt := 132) hx hb dX8_litresToReach_75 (by decide) (fun c_10 => ?_) (fun c_10 => ?_)
                · have k_11 : 100 < (bx (vB σ j)) + k := (m_ltN (a := 100) (b := (bx (vB σ j)) + k) rfl (m_add hv9 rfl) (by omega) (by omega)).mp c_10
                  have k_11' : ¬ ((bx (vB σ j)) + k ≤ 100) := by omega
                  exfalso; omega
                · have k_12 : ¬ (100 < (bx (vB σ j)) + k) := fun z => c_10 ((m_ltN (a := 100) (b := (bx (vB σ j)) + k) rfl (m_add hv9 rfl) (by omega) (by omega)).mpr z)
                  have k_12' : (bx (vB σ j)) + k ≤ 100 := by omega
                  refine lv_aload_n hx hb dX8_litresToReach_78 rfl (lv_at hl 0 rfl) ?_
                  refine lv_iload_n hx hb dX8_litresToReach_79 rfl (lv_at hl 1 rfl) ?_
                  refine lv_iconst (v := 1) hx hb dX8_litresToReach_80 (by decide) ?_
                  refine c_roVi S9 (c_X8_of_h l G cy am aS aBf aAs aSv aPa aOu aTx aCo K OM LN PO CM iS 0 iw ea fa (nB σ) (vB σ) (hB σ) (pB σ) (mB σ) (nD σ) (bD σ) (lD σ) (uD σ) (qD σ) (wD σ) (nE σ) (kE σ) (bE σ) (lE σ) (tT σ) (dT σ) (aT σ) (rT σ) (hT σ) (xT σ) j (by omega)) (cwV 2 hts gX8_litresToReach_X8_of rfl rfl rfl (by decide +kernel) ⟨Nat.le_of_ble_eq_true rfl, Nat.le_of_ble_eq_true rfl⟩) PB.blind (va_recv hK.1 hP (ci := 12) (q0 := 0) rfl rfl) (PB.at hK (m_Ppart hP [0, 1] rfl)) rfl hl.1 rfl (Nat.le_of_ble_eq_true rfl) ⟨Nat.zero_le _, Nat.zero_le _⟩ dX8_litresToReach_81 ?_
                  refine lv_iload hx hb dX8_litresToReach_84 (lv_at hl 4 rfl) ?_
                  refine lv_iload_n hx hb dX8_litresToReach_86 rfl (lv_at hl 2 rfl) ?_
                  refine c_roSi S9 (c_X8_tapDegrees l G cy t) (va_cwS 1 hts gX8_litresToReach_X8_tapDegrees rfl rfl rfl (by decide +kernel) ⟨Nat.le_of_ble_eq_true rfl, Nat.le_of_ble_eq_true rfl⟩) PB.blind (PB.at hK (m_Ppart hP [] rfl)) rfl hl.1 rfl (Nat.le_of_ble_eq_true rfl) ⟨Nat.zero_le _, Nat.zero_le _⟩ dX8_litresToReach_87 ?_
                  refine lv_imul hx hb dX8_litresToReach_90 ?_
                  refine lv_iadd hx hb dX8_litresToReach_91 ?_
                  refine lv_aload_n hx hb dX8_litresToReach_92 rfl (lv_at hl 0 rfl) ?_
                  refine lv_iload_n hx hb dX8_litresToReach_93 rfl (lv_at hl 1 rfl) ?_
                  refine lv_iconst (v := 0) hx hb dX8_litresToReach_94 (by decide) ?_
                  refine c_roVi S9 (c_X8_of_v l G cy am aS aBf aAs aSv aPa aOu aTx aCo K OM LN PO CM iS 0 iw ea fa (nB σ) (vB σ) (hB σ) (pB σ) (mB σ) (nD σ) (bD σ) (lD σ) (uD σ) (qD σ) (wD σ) (nE σ) (kE σ) (bE σ) (lE σ) (tT σ) (dT σ) (aT σ) (rT σ) (hT σ) (xT σ) j (by omega)) (cwV 2 hts gX8_litresToReach_X8_of rfl rfl rfl (by decide +kernel) ⟨Nat.le_of_ble_eq_true rfl, Nat.le_of_ble_eq_true rfl⟩) PB.blind (va_recv hK.1 hP (ci := 12) (q0 := 0) rfl rfl) (PB.at hK (m_Ppart hP [0, 1] rfl)) rfl hl.1 rfl (Nat.le_of_ble_eq_true rfl) ⟨Nat.zero_le _, Nat.zero_le _⟩ dX8_litresToReach_95 ?_
                  refine lv_iload hx hb dX8_litresToReach_98 (lv_at hl 4 rfl) ?_
                  refine lv_iadd hx hb dX8_litresToReach_100 ?_
                  refine lv_idiv hx hb dX8_litresToReach_101 (m_nz (hvp k (by omega))) ?_
                  refine lv_t0 (show (((hB σ) j) + ((nI k) * (10 + 30 * t))) / (((vB σ) j) + (nI k)) = rdeg (hB σ j + nI k * (10 + 30 * t)) (vB σ j + nI k) from (m_rdeg (hvp k (by omega))).symm) ?_
                  refine lv_istore (lv' := [(5, .int (rdeg (hB σ j + nI k * (10 + 30 * t)) (vB σ j + nI k))), (0, .ref am), (1, .int (nI j)), (2, .int t), (3, .int g), (4, .int (nI k))]) hx hb dX8_litresToReach_102 hl (by decide) rfl (fun ls hl => ?_)
                  refine lv_iload_n hx hb dX8_litresToReach_104 rfl (lv_at hl 3 rfl) ?_
                  refine lv_if_ne (tgt := 117) hx hb dX8_litresToReach_105 (by decide) (fun c_13 => ?_) (fun c_13 => ?_)
                  · refine lv_iload hx hb dX8_litresToReach_117 (lv_at hl 0 rfl) ?_
                    refine lv_iload_n hx hb dX8_litresToReach_119 rfl (lv_at hl 4 rfl) ?_
                    refine lv_icmp_lt (tgt := 126) hx hb dX8_litresToReach_120 (by decide) (fun c_14 => ?_) (fun c_14 => ?_)
                    · have c_14' : ¬ g ≤ (rdeg (hB σ j + nI k * (10 + 30 * t)) (vB σ j + nI k)) := Int32.not_le.mpr c_14
                      refine lv_iinc (v := nI (k + 1)) (lv' := [(4, .int (nI (k + 1))), (5, .int (rdeg (hB σ j + nI k * (10 + 30 * t)) (vB σ j + nI k))), (0, .ref am), (1, .int (nI j)), (2, .int t), (3, .int g)]) hx hb dX8_litresToReach_126 hl (k := 5) rfl (m_inc _) (by decide) rfl (fun ls hl => ?_)
                      refine lv_goto (tgt := 64) hx hb dX8_litresToReach_129 (by decide) ?_
                      exact ih (k + 1) (by omega) ((atF_no (by first | exact ltr01 (by assumption) (by assumption) | exact ltr11 (by assumption) (by assumption))).symm.trans hR) H locs hP (m_D2 hD) hS ls (lv_sub hl [2, 3, 4, 5, 0] rfl)
                    · have c_14' : g ≤ (rdeg (hB σ j + nI k * (10 + 30 * t)) (vB σ j + nI k)) := Int32.not_lt.mp c_14
                      refine lv_iload hx hb dX8_litresToReach_123 (lv_at hl 5 rfl) ?_
                      exact wc_iret hx hb hr hlocks hP hS (by rw [← hR, atF_yes (by first | exact ltr00 (by assumption) (by assumption) | exact ltr10 (by assumption) (by assumption))]) dX8_litresToReach_125
                  · refine lv_iload hx hb dX8_litresToReach_108 (lv_at hl 0 rfl) ?_
                    refine lv_iload_n hx hb dX8_litresToReach_110 rfl (lv_at hl 4 rfl) ?_
                    refine lv_icmp_gt (tgt := 126) hx hb dX8_litresToReach_111 (by decide) (fun c_15 => ?_) (fun c_15 => ?_)
                    · have c_15' : ¬ (rdeg (hB σ j + nI k * (10 + 30 * t)) (vB σ j + nI k)) ≤ g := Int32.not_le.mpr c_15
                      refine lv_iinc (v := nI (k + 1)) (lv' := [(4, .int (nI (k + 1))), (5, .int (rdeg (hB σ j + nI k * (10 + 30 * t)) (vB σ j + nI k))), (0, .ref am), (1, .int (nI j)), (2, .int t), (3, .int g)]) hx hb dX8_litresToReach_126 hl (k := 5) rfl (m_inc _) (by decide) rfl (fun ls hl => ?_)
                      refine lv_goto (tgt := 64) hx hb dX8_litresToReach_129 (by decide) ?_
                      exact ih (k + 1) (by omega) ((atF_no (by first | exact ltr01 (by assumption) (by assumption) | exact ltr11 (by assumption) (by assumption))).symm.trans hR) H locs hP (m_D2 hD) hS ls (lv_sub hl [2, 3, 4, 5, 0] rfl)
                    · have c_15' : (rdeg (hB σ j + nI k * (10 + 30 * t)) (vB σ j + nI k)) ≤ g := Int32.not_lt.mp c_15
                      refine lv_goto (tgt := 123) hx hb dX8_litresToReach_114 (by decide) ?_
                      refine lv_iload hx hb dX8_litresToReach_123 (lv_at hl 5 rfl) ?_
                      exact wc_iret hx hb hr hlocks hP hS (by rw [← hR, atF_yes (by first | exact ltr00 (by assumption) (by assumption) | exact ltr10 (by assumption) (by assumption))]) dX8_litresToReach_125
            exact L_6 (101 - bx (vB σ j)) 0 (by omega) hR0 _ _ hP (m_D2 hD) hS ls (lv_sub hl [1, 2, 3, 4, 0] rfl)
          · exact absurd c_5 (by decide)
        · exact absurd c_4 (by decide)
      · exact absurd c_3 (by decide)
  · exact absurd c_1 (by decide)

set_option maxRecDepth 100000 in
set_option maxHeartbeats 1000000 in
theorem c_X8_litresToReach_no4 (l : Launch) (G : va_G) (cy : Nat → ClassId) (am aS aBf aAs aSv aPa aOu aTx aCo K OM LN PO CM : Nat) (iS th iw ea fa : Int32) (σ : St) (j : Nat) (t g : Int32) (ho : Ok σ) (hj : j < nB σ) (hbd : Bd (vB σ) (hB σ)) (ht9 : inR t 0 2 = true) (hg9 : inR g 0 99 = true) (hwt : wet (vB σ) j = true) (hR0 : atF (fun k9 => (if (if t = 0 then rdeg (hB σ j + nI k9 * (10 + 30 * t)) (vB σ j + nI k9) ≤ g else ¬ rdeg (hB σ j + nI k9 * (10 + 30 * t)) (vB σ j + nI k9) < g) then (1 : Int32) else 0)) 1 0 (101 - bx (vB σ j)) = -1) : WC l yX8_litresToReach wsX8_litresToReach { frames := 2, cells := 0, slots := 0, locals := 43 } G (PB G cy [(am, .inr (12, [.ref aS, .ref aBf, .ref aAs, .ref aSv, .int iS, .ref aPa, .int (nI K), .int th, .ref aOu, .int (nI OM), .ref aTx, .int (nI LN), .int (nI PO), .int iw, .int ea, .int fa, .ref aCo, .int (nI CM)])), (aS, .inl (cy 2, 89, .inl (encS σ)))]) [.ref am, .int (nI j), .int t, .int g] [(am, .inr (12, [.ref aS, .ref aBf, .ref aAs, .ref aSv, .int iS, .ref aPa, .int (nI K), .int th, .ref aOu, .int (nI OM), .ref aTx, .int (nI LN), .int (nI PO), .int iw, .int ea, .int fa, .ref aCo, .int (nI CM)])), (aS, .inl (cy 2, 89, .inl (encS σ)))] [(am, .inr (12, [.ref aS, .ref aBf, .ref aAs, .ref aSv, .int iS, .ref aPa, .int (nI K), .int 4, .ref aOu, .int (nI OM), .ref aTx, .int (nI LN), .int (nI PO), .int iw, .int ea, .int fa, .ref aCo, .int (nI CM)])), (aS, .inl (cy 2, 89, .inl (encS σ)))] (some (.int 0)) := by
  refine WC.ofW (cc := cX8_litresToReach) (maxL := 6) (ret := (some .int)) (by decide) rfl (Nat.le_of_ble_eq_true rfl) ?_
  intro p e s m below meth c S9 hr hlocks hPB hD hS ls hl
  obtain ⟨hx, hb, hml, hown, hts⟩ := id S9
  obtain ⟨hP, hK⟩ := hPB
  have hl : lv_has ls 6 [(0, .ref am), (1, .int (nI j)), (2, .int t), (3, .int g)] := hl
  have hP : va_P G vwCl [(am, .inr (12, [.ref aS, .ref aBf, .ref aAs, .ref aSv, .int iS, .ref aPa, .int (nI K), .int th, .ref aOu, .int (nI OM), .ref aTx, .int (nI LN), .int (nI PO), .int iw, .int ea, .int fa, .ref aCo, .int (nI CM)])), (aS, .inl (cy 2, 89, .inl (encT (nB σ) (vB σ) (hB σ) (pB σ) (mB σ) (nD σ) (bD σ) (lD σ) (uD σ) (qD σ) (wD σ) (nE σ) (kE σ) (bE σ) (lE σ) (tT σ) (dT σ) (aT σ) (rT σ) (hT σ) (xT σ))))] s.heap := hP
  have hD0 := hD
  have hD : va_D (wA [(am, .inr (12, [.ref aS, .ref aBf, .ref aAs, .ref aSv, .int iS, .ref aPa, .int (nI K), .int th, .ref aOu, .int (nI OM), .ref aTx, .int (nI LN), .int (nI PO), .int iw, .int ea, .int fa, .ref aCo, .int (nI CM)])), (aS, .inl (cy 2, 89, .inl (encS σ)))]) [(am, .inr (12, [.ref aS, .ref aBf, .ref aAs, .ref aSv, .int iS, .ref aPa, .int (nI K), .int th, .ref aOu, .int (nI OM), .ref aTx, .int (nI LN), .int (nI PO), .int iw, .int ea, .int fa, .ref aCo, .int (nI CM)])), (aS, .inl (cy 2, 89, .inl (encT (nB σ) (vB σ) (hB σ) (pB σ) (mB σ) (nD σ) (bD σ) (lD σ) (uD σ) (qD σ) (wD σ) (nE σ) (kE σ) (bE σ) (lE σ) (tT σ) (dT σ) (aT σ) (rT σ) (hT σ) (xT σ))))] := hD
  have hi12 : ∀ w ∈ wsX80, w ∈ wsX8_litresToReach := by decide +kernel
  have hf42 := hts (.fieldLink RX8 42 "BathLeagueModel" "thrown" "I") (by decide +kernel)
  have hN0 := ho.1
  have hM0 := ho.2.1
  have hE0 := ho.2.2.1
  have hF := m_inI hj (by omega)
  have hvb := bx_v hbd (show j < 5 by omega)
  have hv9 : vB σ j = nI (bx (vB σ j)) := hvb.1
  have hv8 := hvb.2
  have hvp := bx_p hbd (show j < 5 by omega) hwt
  obtain ⟨R9, hR9⟩ : ∃ R9 : Int32, R9 = -1 := ⟨_, rfl⟩
  rw [← hR9] at hR0
  refine lv_aload_n hx hb dX8_litresToReach_0 rfl (lv_at hl 0 rfl) ?_
  refine lv_aload_n hx hb dX8_litresToReach_1 rfl (lv_at hl 0 rfl) ?_
  refine lv_iload_n hx hb dX8_litresToReach_2 rfl (lv_at hl 1 rfl) ?_
  refine c_roVi S9 (c_X8_isBath l G cy am aS aBf aAs aSv aPa aOu aTx aCo K OM LN PO CM iS th iw ea fa (nB σ) (vB σ) (hB σ) (pB σ) (mB σ) (nD σ) (bD σ) (lD σ) (uD σ) (qD σ) (wD σ) (nE σ) (kE σ) (bE σ) (lE σ) (tT σ) (dT σ) (aT σ) (rT σ) (hT σ) (xT σ) (nI j) ho.1) (cwV 1 hts gX8_litresToReach_X8_isBath rfl rfl rfl (by decide +kernel) ⟨Nat.le_of_ble_eq_true rfl, Nat.le_of_ble_eq_true rfl⟩) PB.blind (va_recv hK.1 hP (ci := 12) (q0 := 0) rfl rfl) (PB.at hK (m_Ppart hP [0, 1] rfl)) rfl hl.1 rfl (Nat.le_of_ble_eq_true rfl) ⟨Nat.zero_le _, Nat.zero_le _⟩ dX8_litresToReach_3 ?_
  refine lv_t0 (if_pos hF) ?_
  refine lv_if_ne (tgt := 13) hx hb dX8_litresToReach_6 (by decide) (fun c_1 => ?_) (fun c_1 => ?_)
  · refine lv_iload_n hx hb dX8_litresToReach_13 rfl (lv_at hl 2 rfl) ?_
    refine lv_iconst (v := 0) hx hb dX8_litresToReach_14 (by decide) ?_
    refine lv_iconst (v := 2) hx hb dX8_litresToReach_15 (by decide) ?_
    refine c_roSi S9 (c_X8_in l G cy t 0 2) (va_cwS 3 hts gX8_litresToReach_X8_in rfl rfl rfl (by decide +kernel) ⟨Nat.le_of_ble_eq_true rfl, Nat.le_of_ble_eq_true rfl⟩) PB.blind (PB.at hK (m_Ppart hP [] rfl)) rfl hl.1 rfl (Nat.le_of_ble_eq_true rfl) ⟨Nat.zero_le _, Nat.zero_le _⟩ dX8_litresToReach_16 ?_
    refine lv_t0 (if_pos ht9) ?_
    refine lv_if_eq (tgt := 32) hx hb dX8_litresToReach_19 (by decide) (fun c_2 => ?_) (fun c_2 => ?_)
    · exact absurd c_2 (by decide)
    · refine lv_iload_n hx hb dX8_litresToReach_22 rfl (lv_at hl 3 rfl) ?_
      refine lv_iconst (v := 0) hx hb dX8_litresToReach_23 (by decide) ?_
      refine lv_bipush (v := 99) hx hb dX8_litresToReach_24 (by decide) ?_
      refine c_roSi S9 (c_X8_in l G cy g 0 99) (va_cwS 3 hts gX8_litresToReach_X8_in rfl rfl rfl (by decide +kernel) ⟨Nat.le_of_ble_eq_true rfl, Nat.le_of_ble_eq_true rfl⟩) PB.blind (PB.at hK (m_Ppart hP [] rfl)) rfl hl.1 rfl (Nat.le_of_ble_eq_true rfl) ⟨Nat.zero_le _, Nat.zero_le _⟩ dX8_litresToReach_26 ?_
      refine lv_t0 (if_pos hg9) ?_
      refine lv_if_ne (tgt := 36) hx hb dX8_litresToReach_29 (by decide) (fun c_3 => ?_) (fun c_3 => ?_)
      · refine lv_aload_n hx hb dX8_litresToReach_36 rfl (lv_at hl 0 rfl) ?_
        refine lv_iload_n hx hb dX8_litresToReach_37 rfl (lv_at hl 1 rfl) ?_
        refine c_roVi S9 (c_X8_isWet l G cy am aS aBf aAs aSv aPa aOu aTx aCo K OM LN PO CM iS th iw ea fa (nB σ) (vB σ) (hB σ) (pB σ) (mB σ) (nD σ) (bD σ) (lD σ) (uD σ) (qD σ) (wD σ) (nE σ) (kE σ) (bE σ) (lE σ) (tT σ) (dT σ) (aT σ) (rT σ) (hT σ) (xT σ) j (by omega)) (cwV 1 hts gX8_litresToReach_X8_isWet rfl rfl rfl (by decide +kernel) ⟨Nat.le_of_ble_eq_true rfl, Nat.le_of_ble_eq_true rfl⟩) PB.blind (va_recv hK.1 hP (ci := 12) (q0 := 0) rfl rfl) (PB.at hK (m_Ppart hP [0, 1] rfl)) rfl hl.1 rfl (Nat.le_of_ble_eq_true rfl) ⟨Nat.zero_le _, Nat.zero_le _⟩ dX8_litresToReach_38 ?_
        refine lv_t0 (if_pos hwt) ?_
        refine lv_if_ne (tgt := 48) hx hb dX8_litresToReach_41 (by decide) (fun c_4 => ?_) (fun c_4 => ?_)
        · refine lv_iconst (v := 0) hx hb dX8_litresToReach_48 (by decide) ?_
          refine va_put (D := G) (ci := 12) (v := .int 0) (ty := .int) (C := RX8) (T := TX8) (N := 18) hx hb hts hi12 tyX8 tyX8_ok nmX8 hown hK.1 hP hD hS 0 rfl rfl 7 (by decide) hf42 (fun _ h9 => h9) rfl (by decide +kernel) rfl rfl (Nat.le_of_ble_eq_true rfl) dX8_litresToReach_49 (fun H locs hP hD hS => ?_)
          have hP : va_P G vwCl [(am, .inr (12, [.ref aS, .ref aBf, .ref aAs, .ref aSv, .int iS, .ref aPa, .int (nI K), .int 0, .ref aOu, .int (nI OM), .ref aTx, .int (nI LN), .int (nI PO), .int iw, .int ea, .int fa, .ref aCo, .int (nI CM)])), (aS, .inl (cy 2, 89, .inl (encT (nB σ) (vB σ) (hB σ) (pB σ) (mB σ) (nD σ) (bD σ) (lD σ) (uD σ) (qD σ) (wD σ) (nE σ) (kE σ) (bE σ) (lE σ) (tT σ) (dT σ) (aT σ) (rT σ) (hT σ) (xT σ))))] H := hP
          have hD : va_D (wA [(am, .inr (12, [.ref aS, .ref aBf, .ref aAs, .ref aSv, .int iS, .ref aPa, .int (nI K), .int th, .ref aOu, .int (nI OM), .ref aTx, .int (nI LN), .int (nI PO), .int iw, .int ea, .int fa, .ref aCo, .int (nI CM)])), (aS, .inl (cy 2, 89, .inl (encS σ)))]) [(am, .inr (12, [.ref aS, .ref aBf, .ref aAs, .ref aSv, .int iS, .ref aPa, .int (nI K), .int 0, .ref aOu, .int (nI OM), .ref aTx, .int (nI LN), .int (nI PO), .int iw, .int ea, .int fa, .ref aCo, .int (nI CM)])), (aS, .inl (cy 2, 89, .inl (encT (nB σ) (vB σ) (hB σ) (pB σ) (mB σ) (nD σ) (bD σ) (lD σ) (uD σ) (qD σ) (wD σ) (nE σ) (kE σ) (bE σ) (lE σ) (tT σ) (dT σ) (aT σ) (rT σ) (hT σ) (xT σ))))] := hD
          refine lv_aload_n hx hb dX8_litresToReach_52 rfl (lv_at hl 0 rfl) ?_
          refine va_get (D := G) (ci := 12) (v := .int 0) (C := RX8) (T := TX8) (N := 18) hx hb hts hi12 hown hK.1 hP 0 rfl rfl 7 (by decide) hf42 (fun _ h9 => h9) rfl dX8_litresToReach_53 ?_
          refine lv_if_le (tgt := 61) hx hb dX8_litresToReach_56 (by decide) (fun c_5 => ?_) (fun c_5 => ?_)
          · refine lv_iconst (v := 0) hx hb dX8_litresToReach_61 (by decide) ?_
            refine lv_istore (lv' := [(4, .int 0), (0, .ref am), (1, .int (nI j)), (2, .int t), (3, .int g)]) hx hb dX8_litresToReach_62 hl (by decide) rfl (fun ls hl => ?_)
            have L_6 : ∀ (d k : Nat), k + d = (101 - bx (vB σ j)) → (atF (fun k9 => (if (if t = 0 then rdeg (hB σ j + nI k9 * (10 + 30 * t)) (vB σ j + nI k9) ≤ g else ¬ rdeg (hB σ j + nI k9 * (10 + 30 * t)) (vB σ j + nI k9) < g) then (1 : Int32) else 0)) 1 k d = R9) → ∀ (H : Heap) (locs : List Loc), va_P G vwCl [(am, .inr (12, [.ref aS, .ref aBf, .ref aAs, .ref aSv, .int iS, .ref aPa, .int (nI K), .int 0, .ref aOu, .int (nI OM), .ref aTx, .int (nI LN), .int (nI PO), .int iw, .int ea, .int fa, .ref aCo, .int (nI CM)])), (aS, .inl (cy 2, 89, .inl (encS σ)))] H → va_D (wA [(am, .inr (12, [.ref aS, .ref aBf, .ref aAs, .ref aSv, .int iS, .ref aPa, .int (nI K), .int th, .ref aOu, .int (nI OM), .ref aTx, .int (nI LN), .int (nI PO), .int iw, .int ea, .int fa, .ref aCo, .int (nI CM)])), (aS, .inl (cy 2, 89, .inl (encS σ)))]) [(am, .inr (12, [.ref aS, .ref aBf, .ref aAs, .ref aSv, .int iS, .ref aPa, .int (nI K), .int 0, .ref aOu, .int (nI OM), .ref aTx, .int (nI LN), .int (nI PO), .int iw, .int ea, .int fa, .ref aCo, .int (nI CM)])), (aS, .inl (cy 2, 89, .inl (encS σ)))] → va_S (wA [(am, .inr (12, [.ref aS, .ref aBf, .ref aAs, .ref aSv, .int iS, .ref aPa, .int (nI K), .int th, .ref aOu, .int (nI OM), .ref aTx, .int (nI LN), .int (nI PO), .int iw, .int ea, .int fa, .ref aCo, .int (nI CM)])), (aS, .inl (cy 2, 89, .inl (encS σ)))]) s.heap H locs → ∀ ls : Array Slot, lv_has ls 6 [(0, .ref am), (1, .int (nI j)), (2, .int t), (3, .int g), (4, .int (nI k))] → W p l e ({ frames := 2, cells := 0, slots := 0, locals := 43 } : Room) s m ([.ref am, .int (nI j), .int t, .int g] : List Value).toArray below meth c H locs 0 0 (wcZ below ([.ref am, .int (nI j), .int t, .int g] : List Value).toArray s G [(am, .inr (12, [.ref aS, .ref aBf, .ref aAs, .ref aSv, .int iS, .ref aPa, .int (nI K), .int th, .ref aOu, .int (nI OM), .ref aTx, .int (nI LN), .int (nI PO), .int iw, .int ea, .int fa, .ref aCo, .int (nI CM)])), (aS, .inl (cy 2, 89, .inl (encS σ)))] [(am, .inr (12, [.ref aS, .ref aBf, .ref aAs, .ref aSv, .int iS, .ref aPa, .int (nI K), .int 4, .ref aOu, .int (nI OM), .ref aTx, .int (nI LN), .int (nI PO), .int iw, .int ea, .int fa, .ref aCo, .int (nI CM)])), (aS, .inl (cy 2, 89, .inl (encS σ)))] (some (.int 0))) (F0 m 64 ls []) := by
              intro d
              induction d with
              | zero =>
                intro k hkk hR H locs hP hD hS ls hl
                have hP : va_P G vwCl [(am, .inr (12, [.ref aS, .ref aBf, .ref aAs, .ref aSv, .int iS, .ref aPa, .int (nI K), .int 0, .ref aOu, .int (nI OM), .ref aTx, .int (nI LN), .int (nI PO), .int iw, .int ea, .int fa, .ref aCo, .int (nI CM)])), (aS, .inl (cy 2, 89, .inl (encT (nB σ) (vB σ) (hB σ) (pB σ) (mB σ) (nD σ) (bD σ) (lD σ) (uD σ) (qD σ) (wD σ) (nE σ) (kE σ) (bE σ) (lE σ) (tT σ) (dT σ) (aT σ) (rT σ) (hT σ) (xT σ))))] H := hP
                have hD : va_D (wA [(am, .inr (12, [.ref aS, .ref aBf, .ref aAs, .ref aSv, .int iS, .ref aPa, .int (nI K), .int th, .ref aOu, .int (nI OM), .ref aTx, .int (nI LN), .int (nI PO), .int iw, .int ea, .int fa, .ref aCo, .int (nI CM)])), (aS, .inl (cy 2, 89, .inl (encS σ)))]) [(am, .inr (12, [.ref aS, .ref aBf, .ref aAs, .ref aSv, .int iS, .ref aPa, .int (nI K), .int 0, .ref aOu, .int (nI OM), .ref aTx, .int (nI LN), .int (nI PO), .int iw, .int ea, .int fa, .ref aCo, .int (nI CM)])), (aS, .inl (cy 2, 89, .inl (encT (nB σ) (vB σ) (hB σ) (pB σ) (mB σ) (nD σ) (bD σ) (lD σ) (uD σ) (qD σ) (wD σ) (nE σ) (kE σ) (bE σ) (lE σ) (tT σ) (dT σ) (aT σ) (rT σ) (hT σ) (xT σ))))] := hD
                refine lv_aload_n hx hb dX8_litresToReach_64 rfl (lv_at hl 0 rfl) ?_
                refine lv_iload_n hx hb dX8_litresToReach_65 rfl (lv_at hl 1 rfl) ?_
                refine lv_iconst (v := 0) hx hb dX8_litresToReach_66 (by decide) ?_
                refine c_roVi S9 (c_X8_of_v l G cy am aS aBf aAs aSv aPa aOu aTx aCo K OM LN PO CM iS 0 iw ea fa (nB σ) (vB σ) (hB σ) (pB σ) (mB σ) (nD σ) (bD σ) (lD σ) (uD σ) (qD σ) (wD σ) (nE σ) (kE σ) (bE σ) (lE σ) (tT σ) (dT σ) (aT σ) (rT σ) (hT σ) (xT σ) j (by omega)) (cwV 2 hts gX8_litresToReach_X8_of rfl rfl rfl (by decide +kernel) ⟨Nat.le_of_ble_eq_true rfl, Nat.le_of_ble_eq_true rfl⟩) PB.blind (va_recv hK.1 hP (ci := 12) (q0 := 0) rfl rfl) (PB.at hK (m_Ppart hP [0, 1] rfl)) rfl hl.1 rfl (Nat.le_of_ble_eq_true rfl) ⟨Nat.zero_le _, Nat.zero_le _⟩ dX8_litresToReach_67 ?_
                refine lv_iload hx hb dX8_litresToReach_70 (lv_at hl 4 rfl) ?_
                refine lv_iadd hx hb dX8_litresToReach_72 ?_
                refine lv_bipush (v := 100) hx hb dX8_litresToReach_73 (by decide) ?_
                refine lv_icmp_gt (tgt := 132) hx hb dX8_litresToReach_75 (by decide) (fun c_7 => ?_) (fun c_7 => ?_)
                · have k_8 : 100 < (bx (vB σ j)) + k := (m_ltN (a := 100) (b := (bx (vB σ j)) + k) rfl (m_add hv9 rfl) (by omega) (by omega)).mp c_7
                  have k_8' : ¬ ((bx (vB σ j)) + k ≤ 100) := by omega
                  refine lv_aload_n hx hb dX8_litresToReach_132 rfl (lv_at hl 0 rfl) ?_
                  refine lv_iconst (v := 4) hx hb dX8_litresToReach_133 (by decide) ?_
                  refine c_wcVi (ws' := [(am, .inr (12, [.ref aS, .ref aBf, .ref aAs, .ref aSv, .int iS, .ref aPa, .int (nI K), .int 4, .ref aOu, .int (nI OM), .ref aTx, .int (nI LN), .int (nI PO), .int iw, .int ea, .int fa, .ref aCo, .int (nI CM)])), (aS, .inl (cy 2, 89, .inl (encT (nB σ) (vB σ) (hB σ) (pB σ) (mB σ) (nD σ) (bD σ) (lD σ) (uD σ) (qD σ) (wD σ) (nE σ) (kE σ) (bE σ) (lE σ) (tT σ) (dT σ) (aT σ) (rT σ) (hT σ) (xT σ))))]) S9 (c_X8_fails l G cy am aS aBf aAs aSv aPa aOu aTx aCo K OM LN PO CM iS 0 iw ea fa (nB σ) (vB σ) (hB σ) (pB σ) (mB σ) (nD σ) (bD σ) (lD σ) (uD σ) (qD σ) (wD σ) (nE σ) (kE σ) (bE σ) (lE σ) (tT σ) (dT σ) (aT σ) (rT σ) (hT σ) (xT σ) 4) (cwV 1 hts gX8_litresToReach_X8_fails rfl rfl rfl (by decide +kernel) ⟨Nat.le_of_ble_eq_true rfl, Nat.le_of_ble_eq_true rfl⟩) PB.blind (va_recv hK.1 hP (ci := 12) (q0 := 0) rfl rfl) (PB.at hK (m_Ppart hP [0, 1] rfl)) hP hD hS [0, 1] rfl rfl m_f2 rfl rfl hl.1 rfl (Nat.le_of_ble_eq_true rfl) ⟨Nat.zero_le _, Nat.zero_le _⟩ dX8_litresToReach_134 (fun H locs hP hD hS => ?_)
                  exact wc_iret hx hb hr hlocks hP hS rfl dX8_litresToReach_137
                · have k_9 : ¬ (100 < (bx (vB σ j)) + k) := fun z => c_7 ((m_ltN (a := 100) (b := (bx (vB σ j)) + k) rfl (m_add hv9 rfl) (by omega) (by omega)).mpr z)
                  have k_9' : (bx (vB σ j)) + k ≤ 100 := by omega
                  exfalso; omega
              | succ d ih =>
                intro k hkk hR H locs hP hD hS ls hl
                have hP : va_P G vwCl [(am, .inr (12, [.ref aS, .ref aBf, .ref aAs, .ref aSv, .int iS, .ref aPa, .int (nI K), .int 0, .ref aOu, .int (nI OM), .ref aTx, .int (nI LN), .int (nI PO), .int iw, .int ea, .int fa, .ref aCo, .int (nI CM)])), (aS, .inl (cy 2, 89, .inl (encT (nB σ) (vB σ) (hB σ) (pB σ) (mB σ) (nD σ) (bD σ) (lD σ) (uD σ) (qD σ) (wD σ) (nE σ) (kE σ) (bE σ) (lE σ) (tT σ) (dT σ) (aT σ) (rT σ) (hT σ) (xT σ))))] H := hP
                have hD : va_D (wA [(am, .inr (12, [.ref aS, .ref aBf, .ref aAs, .ref aSv, .int iS, .ref aPa, .int (nI K), .int th, .ref aOu, .int (nI OM), .ref aTx, .int (nI LN), .int (nI PO), .int iw, .int ea, .int fa, .ref aCo, .int (nI CM)])), (aS, .inl (cy 2, 89, .inl (encS σ)))]) [(am, .inr (12, [.ref aS, .ref aBf, .ref aAs, .ref aSv, .int iS, .ref aPa, .int (nI K), .int 0, .ref aOu, .int (nI OM), .ref aTx, .int (nI LN), .int (nI PO), .int iw, .int ea, .int fa, .ref aCo, .int (nI CM)])), (aS, .inl (cy 2, 89, .inl (encT (nB σ) (vB σ) (hB σ) (pB σ) (mB σ) (nD σ) (bD σ) (lD σ) (uD σ) (qD σ) (wD σ) (nE σ) (kE σ) (bE σ) (lE σ) (tT σ) (dT σ) (aT σ) (rT σ) (hT σ) (xT σ))))] := hD
                refine lv_aload_n hx hb dX8_litresToReach_64 rfl (lv_at hl 0 rfl) ?_
                refine lv_iload_n hx hb dX8_litresToReach_65 rfl (lv_at hl 1 rfl) ?_
                refine lv_iconst (v := 0) hx hb dX8_litresToReach_66 (by decide) ?_
                refine c_roVi S9 (c_X8_of_v l G cy am aS aBf aAs aSv aPa aOu aTx aCo K OM LN PO CM iS 0 iw ea fa (nB σ) (vB σ) (hB σ) (pB σ) (mB σ) (nD σ) (bD σ) (lD σ) (uD σ) (qD σ) (wD σ) (nE σ) (kE σ) (bE σ) (lE σ) (tT σ) (dT σ) (aT σ) (rT σ) (hT σ) (xT σ) j (by omega)) (cwV 2 hts gX8_litresToReach_X8_of rfl rfl rfl (by decide +kernel) ⟨Nat.le_of_ble_eq_true rfl, Nat.le_of_ble_eq_true rfl⟩) PB.blind (va_recv hK.1 hP (ci := 12) (q0 := 0) rfl rfl) (PB.at hK (m_Ppart hP [0, 1] rfl)) rfl hl.1 rfl (Nat.le_of_ble_eq_true rfl) ⟨Nat.zero_le _, Nat.zero_le _⟩ dX8_litresToReach_67 ?_
                refine lv_iload hx hb dX8_litresToReach_70 (lv_at hl 4 rfl) ?_
                refine lv_iadd hx hb dX8_litresToReach_72 ?_
                refine lv_bipush (v := 100) hx hb dX8_litresToReach_73 (by decide) ?_
                refine lv_icmp_gt (tgt := 132) hx hb dX8_litresToReach_75 (by decide) (fun c_10 => ?_) (fun c_10 => ?_)
                · have k_11 : 100 < (bx (vB σ j)) + k := (m_ltN (a := 100) (b := (bx (vB σ j)) + k) rfl (m_add hv9 rfl) (by omega) (by omega)).mp c_10
                  have k_11' : ¬ ((bx (vB σ j)) + k ≤ 100) := by omega
                  exfalso; omega
                · have k_12 : ¬ (100 < (bx (vB σ j)) + k) := fun z => c_10 ((m_ltN (a := 100) (b := (bx (vB σ j)) + k) rfl (m_add hv9 rfl) (by omega) (by omega)).mpr z)
                  have k_12' : (bx (vB σ j)) + k ≤ 100 := by omega
                  refine lv_aload_n hx hb dX8_litresToReach_78 rfl (lv_at hl 0 rfl) ?_
                  refine lv_iload_n hx hb dX8_litresToReach_79 rfl (lv_at hl 1 rfl) ?_
                  refine lv_iconst (v := 1) hx hb dX8_litresToReach_80 (by decide) ?_
                  refine c_roVi S9 (c_X8_of_h l G cy am aS aBf aAs aSv aPa aOu aTx aCo K OM LN PO CM iS 0 iw ea fa (nB σ) (vB σ) (hB σ) (pB σ) (mB σ) (nD σ) (bD σ) (lD σ) (uD σ) (qD σ) (wD σ) (nE σ) (kE σ) (bE σ) (lE σ) (tT σ) (dT σ) (aT σ) (rT σ) (hT σ) (xT σ) j (by omega)) (cwV 2 hts gX8_litresToReach_X8_of rfl rfl rfl (by decide +kernel) ⟨Nat.le_of_ble_eq_true rfl, Nat.le_of_ble_eq_true rfl⟩) PB.blind (va_recv hK.1 hP (ci := 12) (q0 := 0) rfl rfl) (PB.at hK (m_Ppart hP [0, 1] rfl)) rfl hl.1 rfl (Nat.le_of_ble_eq_true rfl) ⟨Nat.zero_le _, Nat.zero_le _⟩ dX8_litresToReach_81 ?_
                  refine lv_iload hx hb dX8_litresToReach_84 (lv_at hl 4 rfl) ?_
                  refine lv_iload_n hx hb dX8_litresToReach_86 rfl (lv_at hl 2 rfl) ?_
                  refine c_roSi S9 (c_X8_tapDegrees l G cy t) (va_cwS 1 hts gX8_litresToReach_X8_tapDegrees rfl rfl rfl (by decide +kernel) ⟨Nat.le_of_ble_eq_true rfl, Nat.le_of_ble_eq_true rfl⟩) PB.blind (PB.at hK (m_Ppart hP [] rfl)) rfl hl.1 rfl (Nat.le_of_ble_eq_true rfl) ⟨Nat.zero_le _, Nat.zero_le _⟩ dX8_litresToReach_87 ?_
                  refine lv_imul hx hb dX8_litresToReach_90 ?_
                  refine lv_iadd hx hb dX8_litresToReach_91 ?_
                  refine lv_aload_n hx hb dX8_litresToReach_92 rfl (lv_at hl 0 rfl) ?_
                  refine lv_iload_n hx hb dX8_litresToReach_93 rfl (lv_at hl 1 rfl) ?_
                  refine lv_iconst (v := 0) hx hb dX8_litresToReach_94 (by decide) ?_
                  refine c_roVi S9 (c_X8_of_v l G cy am aS aBf aAs aSv aPa aOu aTx aCo K OM LN PO CM iS 0 iw ea fa (nB σ) (vB σ) (hB σ) (pB σ) (mB σ) (nD σ) (bD σ) (lD σ) (uD σ) (qD σ) (wD σ) (nE σ) (kE σ) (bE σ) (lE σ) (tT σ) (dT σ) (aT σ) (rT σ) (hT σ) (xT σ) j (by omega)) (cwV 2 hts gX8_litresToReach_X8_of rfl rfl rfl (by decide +kernel) ⟨Nat.le_of_ble_eq_true rfl, Nat.le_of_ble_eq_true rfl⟩) PB.blind (va_recv hK.1 hP (ci := 12) (q0 := 0) rfl rfl) (PB.at hK (m_Ppart hP [0, 1] rfl)) rfl hl.1 rfl (Nat.le_of_ble_eq_true rfl) ⟨Nat.zero_le _, Nat.zero_le _⟩ dX8_litresToReach_95 ?_
                  refine lv_iload hx hb dX8_litresToReach_98 (lv_at hl 4 rfl) ?_
                  refine lv_iadd hx hb dX8_litresToReach_100 ?_
                  refine lv_idiv hx hb dX8_litresToReach_101 (m_nz (hvp k (by omega))) ?_
                  refine lv_t0 (show (((hB σ) j) + ((nI k) * (10 + 30 * t))) / (((vB σ) j) + (nI k)) = rdeg (hB σ j + nI k * (10 + 30 * t)) (vB σ j + nI k) from (m_rdeg (hvp k (by omega))).symm) ?_
                  refine lv_istore (lv' := [(5, .int (rdeg (hB σ j + nI k * (10 + 30 * t)) (vB σ j + nI k))), (0, .ref am), (1, .int (nI j)), (2, .int t), (3, .int g), (4, .int (nI k))]) hx hb dX8_litresToReach_102 hl (by decide) rfl (fun ls hl => ?_)
                  refine lv_iload_n hx hb dX8_litresToReach_104 rfl (lv_at hl 3 rfl) ?_
                  refine lv_if_ne (tgt := 117) hx hb dX8_litresToReach_105 (by decide) (fun c_13 => ?_) (fun c_13 => ?_)
                  · refine lv_iload hx hb dX8_litresToReach_117 (lv_at hl 0 rfl) ?_
                    refine lv_iload_n hx hb dX8_litresToReach_119 rfl (lv_at hl 4 rfl) ?_
                    refine lv_icmp_lt (tgt := 126) hx hb dX8_litresToReach_120 (by decide) (fun c_14 => ?_) (fun c_14 => ?_)
                    · have c_14' : ¬ g ≤ (rdeg (hB σ j + nI k * (10 + 30 * t)) (vB σ j + nI k)) := Int32.not_le.mpr c_14
                      refine lv_iinc (v := nI (k + 1)) (lv' := [(4, .int (nI (k + 1))), (5, .int (rdeg (hB σ j + nI k * (10 + 30 * t)) (vB σ j + nI k))), (0, .ref am), (1, .int (nI j)), (2, .int t), (3, .int g)]) hx hb dX8_litresToReach_126 hl (k := 5) rfl (m_inc _) (by decide) rfl (fun ls hl => ?_)
                      refine lv_goto (tgt := 64) hx hb dX8_litresToReach_129 (by decide) ?_
                      exact ih (k + 1) (by omega) ((atF_no (by first | exact ltr01 (by assumption) (by assumption) | exact ltr11 (by assumption) (by assumption))).symm.trans hR) H locs hP (m_D2 hD) hS ls (lv_sub hl [2, 3, 4, 5, 0] rfl)
                    · have c_14' : g ≤ (rdeg (hB σ j + nI k * (10 + 30 * t)) (vB σ j + nI k)) := Int32.not_lt.mp c_14
                      exact absurd ((atF_yes (by first | exact ltr00 (by assumption) (by assumption) | exact ltr10 (by assumption) (by assumption))).symm.trans (hR.trans hR9)) (m_nIne (by omega))
                  · refine lv_iload hx hb dX8_litresToReach_108 (lv_at hl 0 rfl) ?_
                    refine lv_iload_n hx hb dX8_litresToReach_110 rfl (lv_at hl 4 rfl) ?_
                    refine lv_icmp_gt (tgt := 126) hx hb dX8_litresToReach_111 (by decide) (fun c_15 => ?_) (fun c_15 => ?_)
                    · have c_15' : ¬ (rdeg (hB σ j + nI k * (10 + 30 * t)) (vB σ j + nI k)) ≤ g := Int32.not_le.mpr c_15
                      refine lv_iinc (v := nI (k + 1)) (lv' := [(4, .int (nI (k + 1))), (5, .int (rdeg (hB σ j + nI k * (10 + 30 * t)) (vB σ j + nI k))), (0, .ref am), (1, .int (nI j)), (2, .int t), (3, .int g)]) hx hb dX8_litresToReach_126 hl (k := 5) rfl (m_inc _) (by decide) rfl (fun ls hl => ?_)
                      refine lv_goto (tgt := 64) hx hb dX8_litresToReach_129 (by decide) ?_
                      exact ih (k + 1) (by omega) ((atF_no (by first | exact ltr01 (by assumption) (by assumption) | exact ltr11 (by assumption) (by assumption))).symm.trans hR) H locs hP (m_D2 hD) hS ls (lv_sub hl [2, 3, 4, 5, 0] rfl)
                    · have c_15' : (rdeg (hB σ j + nI k * (10 + 30 * t)) (vB σ j + nI k)) ≤ g := Int32.not_lt.mp c_15
                      refine lv_goto (tgt := 123) hx hb dX8_litresToReach_114 (by decide) ?_
                      exact absurd ((atF_yes (by first | exact ltr00 (by assumption) (by assumption) | exact ltr10 (by assumption) (by assumption))).symm.trans (hR.trans hR9)) (m_nIne (by omega))
            exact L_6 (101 - bx (vB σ j)) 0 (by omega) hR0 _ _ hP (m_D2 hD) hS ls (lv_sub hl [1, 2, 3, 4, 0] rfl)
          · exact absurd c_5 (by decide)
        · exact absurd c_4 (by decide)
      · exact absurd c_3 (by decide)
  · exact absurd c_1 (by decide)

set_option maxRecDepth 100000 in
set_option maxHeartbeats 1000000 in
theorem c_X8_litresToReach_no1 (l : Launch) (G : va_G) (cy : Nat → ClassId) (am aS aBf aAs aSv aPa aOu aTx aCo K OM LN PO CM : Nat) (iS th iw ea fa : Int32) (σ : St) (b t g : Int32) (ho : Ok σ) (hF : ¬ inI b (nI (nB σ)) = true) : WC l yX8_litresToReach wsX8_litresToReach { frames := 2, cells := 0, slots := 0, locals := 43 } G (PB G cy [(am, .inr (12, [.ref aS, .ref aBf, .ref aAs, .ref aSv, .int iS, .ref aPa, .int (nI K), .int th, .ref aOu, .int (nI OM), .ref aTx, .int (nI LN), .int (nI PO), .int iw, .int ea, .int fa, .ref aCo, .int (nI CM)])), (aS, .inl (cy 2, 89, .inl (encS σ)))]) [.ref am, .int b, .int t, .int g] [(am, .inr (12, [.ref aS, .ref aBf, .ref aAs, .ref aSv, .int iS, .ref aPa, .int (nI K), .int th, .ref aOu, .int (nI OM), .ref aTx, .int (nI LN), .int (nI PO), .int iw, .int ea, .int fa, .ref aCo, .int (nI CM)])), (aS, .inl (cy 2, 89, .inl (encS σ)))] [(am, .inr (12, [.ref aS, .ref aBf, .ref aAs, .ref aSv, .int iS, .ref aPa, .int (nI K), .int 1, .ref aOu, .int (nI OM), .ref aTx, .int (nI LN), .int (nI PO), .int iw, .int ea, .int fa, .ref aCo, .int (nI CM)])), (aS, .inl (cy 2, 89, .inl (encS σ)))] (some (.int 0)) := by
  refine WC.ofW (cc := cX8_litresToReach) (maxL := 6) (ret := (some .int)) (by decide) rfl (Nat.le_of_ble_eq_true rfl) ?_
  intro p e s m below meth c S9 hr hlocks hPB hD hS ls hl
  obtain ⟨hx, hb, hml, hown, hts⟩ := id S9
  obtain ⟨hP, hK⟩ := hPB
  have hl : lv_has ls 6 [(0, .ref am), (1, .int b), (2, .int t), (3, .int g)] := hl
  have hP : va_P G vwCl [(am, .inr (12, [.ref aS, .ref aBf, .ref aAs, .ref aSv, .int iS, .ref aPa, .int (nI K), .int th, .ref aOu, .int (nI OM), .ref aTx, .int (nI LN), .int (nI PO), .int iw, .int ea, .int fa, .ref aCo, .int (nI CM)])), (aS, .inl (cy 2, 89, .inl (encT (nB σ) (vB σ) (hB σ) (pB σ) (mB σ) (nD σ) (bD σ) (lD σ) (uD σ) (qD σ) (wD σ) (nE σ) (kE σ) (bE σ) (lE σ) (tT σ) (dT σ) (aT σ) (rT σ) (hT σ) (xT σ))))] s.heap := hP
  have hD0 := hD
  have hD : va_D (wA [(am, .inr (12, [.ref aS, .ref aBf, .ref aAs, .ref aSv, .int iS, .ref aPa, .int (nI K), .int th, .ref aOu, .int (nI OM), .ref aTx, .int (nI LN), .int (nI PO), .int iw, .int ea, .int fa, .ref aCo, .int (nI CM)])), (aS, .inl (cy 2, 89, .inl (encS σ)))]) [(am, .inr (12, [.ref aS, .ref aBf, .ref aAs, .ref aSv, .int iS, .ref aPa, .int (nI K), .int th, .ref aOu, .int (nI OM), .ref aTx, .int (nI LN), .int (nI PO), .int iw, .int ea, .int fa, .ref aCo, .int (nI CM)])), (aS, .inl (cy 2, 89, .inl (encT (nB σ) (vB σ) (hB σ) (pB σ) (mB σ) (nD σ) (bD σ) (lD σ) (uD σ) (qD σ) (wD σ) (nE σ) (kE σ) (bE σ) (lE σ) (tT σ) (dT σ) (aT σ) (rT σ) (hT σ) (xT σ))))] := hD
  have hi12 : ∀ w ∈ wsX80, w ∈ wsX8_litresToReach := by decide +kernel
  have hf42 := hts (.fieldLink RX8 42 "BathLeagueModel" "thrown" "I") (by decide +kernel)
  have hN0 := ho.1
  have hM0 := ho.2.1
  have hE0 := ho.2.2.1
  refine lv_aload_n hx hb dX8_litresToReach_0 rfl (lv_at hl 0 rfl) ?_
  refine lv_aload_n hx hb dX8_litresToReach_1 rfl (lv_at hl 0 rfl) ?_
  refine lv_iload_n hx hb dX8_litresToReach_2 rfl (lv_at hl 1 rfl) ?_
  refine c_roVi S9 (c_X8_isBath l G cy am aS aBf aAs aSv aPa aOu aTx aCo K OM LN PO CM iS th iw ea fa (nB σ) (vB σ) (hB σ) (pB σ) (mB σ) (nD σ) (bD σ) (lD σ) (uD σ) (qD σ) (wD σ) (nE σ) (kE σ) (bE σ) (lE σ) (tT σ) (dT σ) (aT σ) (rT σ) (hT σ) (xT σ) b ho.1) (cwV 1 hts gX8_litresToReach_X8_isBath rfl rfl rfl (by decide +kernel) ⟨Nat.le_of_ble_eq_true rfl, Nat.le_of_ble_eq_true rfl⟩) PB.blind (va_recv hK.1 hP (ci := 12) (q0 := 0) rfl rfl) (PB.at hK (m_Ppart hP [0, 1] rfl)) rfl hl.1 rfl (Nat.le_of_ble_eq_true rfl) ⟨Nat.zero_le _, Nat.zero_le _⟩ dX8_litresToReach_3 ?_
  refine lv_t0 (if_neg hF) ?_
  refine lv_if_ne (tgt := 13) hx hb dX8_litresToReach_6 (by decide) (fun c_1 => ?_) (fun c_1 => ?_)
  · exact absurd c_1 (by decide)
  · refine lv_iconst (v := 1) hx hb dX8_litresToReach_9 (by decide) ?_
    refine lv_goto (tgt := 49) hx hb dX8_litresToReach_10 (by decide) ?_
    refine va_put (D := G) (ci := 12) (v := .int 1) (ty := .int) (C := RX8) (T := TX8) (N := 18) hx hb hts hi12 tyX8 tyX8_ok nmX8 hown hK.1 hP hD hS 0 rfl rfl 7 (by decide) hf42 (fun _ h9 => h9) rfl (by decide +kernel) rfl rfl (Nat.le_of_ble_eq_true rfl) dX8_litresToReach_49 (fun H locs hP hD hS => ?_)
    have hP : va_P G vwCl [(am, .inr (12, [.ref aS, .ref aBf, .ref aAs, .ref aSv, .int iS, .ref aPa, .int (nI K), .int 1, .ref aOu, .int (nI OM), .ref aTx, .int (nI LN), .int (nI PO), .int iw, .int ea, .int fa, .ref aCo, .int (nI CM)])), (aS, .inl (cy 2, 89, .inl (encT (nB σ) (vB σ) (hB σ) (pB σ) (mB σ) (nD σ) (bD σ) (lD σ) (uD σ) (qD σ) (wD σ) (nE σ) (kE σ) (bE σ) (lE σ) (tT σ) (dT σ) (aT σ) (rT σ) (hT σ) (xT σ))))] H := hP
    have hD : va_D (wA [(am, .inr (12, [.ref aS, .ref aBf, .ref aAs, .ref aSv, .int iS, .ref aPa, .int (nI K), .int th, .ref aOu, .int (nI OM), .ref aTx, .int (nI LN), .int (nI PO), .int iw, .int ea, .int fa, .ref aCo, .int (nI CM)])), (aS, .inl (cy 2, 89, .inl (encS σ)))]) [(am, .inr (12, [.ref aS, .ref aBf, .ref aAs, .ref aSv, .int iS, .ref aPa, .int (nI K), .int 1, .ref aOu, .int (nI OM), .ref aTx, .int (nI LN), .int (nI PO), .int iw, .int ea, .int fa, .ref aCo, .int (nI CM)])), (aS, .inl (cy 2, 89, .inl (encT (nB σ) (vB σ) (hB σ) (pB σ) (mB σ) (nD σ) (bD σ) (lD σ) (uD σ) (qD σ) (wD σ) (nE σ) (kE σ) (bE σ) (lE σ) (tT σ) (dT σ) (aT σ) (rT σ) (hT σ) (xT σ))))] := hD
    refine lv_aload_n hx hb dX8_litresToReach_52 rfl (lv_at hl 0 rfl) ?_
    refine va_get (D := G) (ci := 12) (v := .int 1) (C := RX8) (T := TX8) (N := 18) hx hb hts hi12 hown hK.1 hP 0 rfl rfl 7 (by decide) hf42 (fun _ h9 => h9) rfl dX8_litresToReach_53 ?_
    refine lv_if_le (tgt := 61) hx hb dX8_litresToReach_56 (by decide) (fun c_2 => ?_) (fun c_2 => ?_)
    · exact absurd c_2 (by decide)
    · refine lv_iconst (v := 0) hx hb dX8_litresToReach_59 (by decide) ?_
      exact wc_iret hx hb hr hlocks hP hS rfl dX8_litresToReach_60

set_option maxRecDepth 100000 in
set_option maxHeartbeats 1000000 in
theorem c_X8_litresToReach_no2 (l : Launch) (G : va_G) (cy : Nat → ClassId) (am aS aBf aAs aSv aPa aOu aTx aCo K OM LN PO CM : Nat) (iS th iw ea fa : Int32) (σ : St) (j : Nat) (t g : Int32) (ho : Ok σ) (hj : j < nB σ) (ht9 : ¬ inR t 0 2 = true) : WC l yX8_litresToReach wsX8_litresToReach { frames := 2, cells := 0, slots := 0, locals := 43 } G (PB G cy [(am, .inr (12, [.ref aS, .ref aBf, .ref aAs, .ref aSv, .int iS, .ref aPa, .int (nI K), .int th, .ref aOu, .int (nI OM), .ref aTx, .int (nI LN), .int (nI PO), .int iw, .int ea, .int fa, .ref aCo, .int (nI CM)])), (aS, .inl (cy 2, 89, .inl (encS σ)))]) [.ref am, .int (nI j), .int t, .int g] [(am, .inr (12, [.ref aS, .ref aBf, .ref aAs, .ref aSv, .int iS, .ref aPa, .int (nI K), .int th, .ref aOu, .int (nI OM), .ref aTx, .int (nI LN), .int (nI PO), .int iw, .int ea, .int fa, .ref aCo, .int (nI CM)])), (aS, .inl (cy 2, 89, .inl (encS σ)))] [(am, .inr (12, [.ref aS, .ref aBf, .ref aAs, .ref aSv, .int iS, .ref aPa, .int (nI K), .int 2, .ref aOu, .int (nI OM), .ref aTx, .int (nI LN), .int (nI PO), .int iw, .int ea, .int fa, .ref aCo, .int (nI CM)])), (aS, .inl (cy 2, 89, .inl (encS σ)))] (some (.int 0)) := by
  refine WC.ofW (cc := cX8_litresToReach) (maxL := 6) (ret := (some .int)) (by decide) rfl (Nat.le_of_ble_eq_true rfl) ?_
  intro p e s m below meth c S9 hr hlocks hPB hD hS ls hl
  obtain ⟨hx, hb, hml, hown, hts⟩ := id S9
  obtain ⟨hP, hK⟩ := hPB
  have hl : lv_has ls 6 [(0, .ref am), (1, .int (nI j)), (2, .int t), (3, .int g)] := hl
  have hP : va_P G vwCl [(am, .inr (12, [.ref aS, .ref aBf, .ref aAs, .ref aSv, .int iS, .ref aPa, .int (nI K), .int th, .ref aOu, .int (nI OM), .ref aTx, .int (nI LN), .int (nI PO), .int iw, .int ea, .int fa, .ref aCo, .int (nI CM)])), (aS, .inl (cy 2, 89, .inl (encT (nB σ) (vB σ) (hB σ) (pB σ) (mB σ) (nD σ) (bD σ) (lD σ) (uD σ) (qD σ) (wD σ) (nE σ) (kE σ) (bE σ) (lE σ) (tT σ) (dT σ) (aT σ) (rT σ) (hT σ) (xT σ))))] s.heap := hP
  have hD0 := hD
  have hD : va_D (wA [(am, .inr (12, [.ref aS, .ref aBf, .ref aAs, .ref aSv, .int iS, .ref aPa, .int (nI K), .int th, .ref aOu, .int (nI OM), .ref aTx, .int (nI LN), .int (nI PO), .int iw, .int ea, .int fa, .ref aCo, .int (nI CM)])), (aS, .inl (cy 2, 89, .inl (encS σ)))]) [(am, .inr (12, [.ref aS, .ref aBf, .ref aAs, .ref aSv, .int iS, .ref aPa, .int (nI K), .int th, .ref aOu, .int (nI OM), .ref aTx, .int (nI LN), .int (nI PO), .int iw, .int ea, .int fa, .ref aCo, .int (nI CM)])), (aS, .inl (cy 2, 89, .inl (encT (nB σ) (vB σ) (hB σ) (pB σ) (mB σ) (nD σ) (bD σ) (lD σ) (uD σ) (qD σ) (wD σ) (nE σ) (kE σ) (bE σ) (lE σ) (tT σ) (dT σ) (aT σ) (rT σ) (hT σ) (xT σ))))] := hD
  have hi12 : ∀ w ∈ wsX80, w ∈ wsX8_litresToReach := by decide +kernel
  have hf42 := hts (.fieldLink RX8 42 "BathLeagueModel" "thrown" "I") (by decide +kernel)
  have hN0 := ho.1
  have hM0 := ho.2.1
  have hE0 := ho.2.2.1
  have hF := m_inI hj (by omega)
  refine lv_aload_n hx hb dX8_litresToReach_0 rfl (lv_at hl 0 rfl) ?_
  refine lv_aload_n hx hb dX8_litresToReach_1 rfl (lv_at hl 0 rfl) ?_
  refine lv_iload_n hx hb dX8_litresToReach_2 rfl (lv_at hl 1 rfl) ?_
  refine c_roVi S9 (c_X8_isBath l G cy am aS aBf aAs aSv aPa aOu aTx aCo K OM LN PO CM iS th iw ea fa (nB σ) (vB σ) (hB σ) (pB σ) (mB σ) (nD σ) (bD σ) (lD σ) (uD σ) (qD σ) (wD σ) (nE σ) (kE σ) (bE σ) (lE σ) (tT σ) (dT σ) (aT σ) (rT σ) (hT σ) (xT σ) (nI j) ho.1) (cwV 1 hts gX8_litresToReach_X8_isBath rfl rfl rfl (by decide +kernel) ⟨Nat.le_of_ble_eq_true rfl, Nat.le_of_ble_eq_true rfl⟩) PB.blind (va_recv hK.1 hP (ci := 12) (q0 := 0) rfl rfl) (PB.at hK (m_Ppart hP [0, 1] rfl)) rfl hl.1 rfl (Nat.le_of_ble_eq_true rfl) ⟨Nat.zero_le _, Nat.zero_le _⟩ dX8_litresToReach_3 ?_
  refine lv_t0 (if_pos hF) ?_
  refine lv_if_ne (tgt := 13) hx hb dX8_litresToReach_6 (by decide) (fun c_1 => ?_) (fun c_1 => ?_)
  · refine lv_iload_n hx hb dX8_litresToReach_13 rfl (lv_at hl 2 rfl) ?_
    refine lv_iconst (v := 0) hx hb dX8_litresToReach_14 (by decide) ?_
    refine lv_iconst (v := 2) hx hb dX8_litresToReach_15 (by decide) ?_
    refine c_roSi S9 (c_X8_in l G cy t 0 2) (va_cwS 3 hts gX8_litresToReach_X8_in rfl rfl rfl (by decide +kernel) ⟨Nat.le_of_ble_eq_true rfl, Nat.le_of_ble_eq_true rfl⟩) PB.blind (PB.at hK (m_Ppart hP [] rfl)) rfl hl.1 rfl (Nat.le_of_ble_eq_true rfl) ⟨Nat.zero_le _, Nat.zero_le _⟩ dX8_litresToReach_16 ?_
    refine lv_t0 (if_neg ht9) ?_
    refine lv_if_eq (tgt := 32) hx hb dX8_litresToReach_19 (by decide) (fun c_2 => ?_) (fun c_2 => ?_)
    · refine lv_iconst (v := 2) hx hb dX8_litresToReach_32 (by decide) ?_
      refine lv_goto (tgt := 49) hx hb dX8_litresToReach_33 (by decide) ?_
      refine va_put (D := G) (ci := 12) (v := .int 2) (ty := .int) (C := RX8) (T := TX8) (N := 18) hx hb hts hi12 tyX8 tyX8_ok nmX8 hown hK.1 hP hD hS 0 rfl rfl 7 (by decide) hf42 (fun _ h9 => h9) rfl (by decide +kernel) rfl rfl (Nat.le_of_ble_eq_true rfl) dX8_litresToReach_49 (fun H locs hP hD hS => ?_)
      have hP : va_P G vwCl [(am, .inr (12, [.ref aS, .ref aBf, .ref aAs, .ref aSv, .int iS, .ref aPa, .int (nI K), .int 2, .ref aOu, .int (nI OM), .ref aTx, .int (nI LN), .int (nI PO), .int iw, .int ea, .int fa, .ref aCo, .int (nI CM)])), (aS, .inl (cy 2, 89, .inl (encT (nB σ) (vB σ) (hB σ) (pB σ) (mB σ) (nD σ) (bD σ) (lD σ) (uD σ) (qD σ) (wD σ) (nE σ) (kE σ) (bE σ) (lE σ) (tT σ) (dT σ) (aT σ) (rT σ) (hT σ) (xT σ))))] H := hP
      have hD : va_D (wA [(am, .inr (12, [.ref aS, .ref aBf, .ref aAs, .ref aSv, .int iS, .ref aPa, .int (nI K), .int th, .ref aOu, .int (nI OM), .ref aTx, .int (nI LN), .int (nI PO), .int iw, .int ea, .int fa, .ref aCo, .int (nI CM)])), (aS, .inl (cy 2, 89, .inl (encS σ)))]) [(am, .inr (12, [.ref aS, .ref aBf, .ref aAs, .ref aSv, .int iS, .ref aPa, .int (nI K), .int 2, .ref aOu, .int (nI OM), .ref aTx, .int (nI LN), .int (nI PO), .int iw, .int ea, .int fa, .ref aCo, .int (nI CM)])), (aS, .inl (cy 2, 89, .inl (encT (nB σ) (vB σ) (hB σ) (pB σ) (mB σ) (nD σ) (bD σ) (lD σ) (uD σ) (qD σ) (wD σ) (nE σ) (kE σ) (bE σ) (lE σ) (tT σ) (dT σ) (aT σ) (rT σ) (hT σ) (xT σ))))] := hD
      refine lv_aload_n hx hb dX8_litresToReach_52 rfl (lv_at hl 0 rfl) ?_
      refine va_get (D := G) (ci := 12) (v := .int 2) (C := RX8) (T := TX8) (N := 18) hx hb hts hi12 hown hK.1 hP 0 rfl rfl 7 (by decide) hf42 (fun _ h9 => h9) rfl dX8_litresToReach_53 ?_
      refine lv_if_le (tgt := 61) hx hb dX8_litresToReach_56 (by decide) (fun c_3 => ?_) (fun c_3 => ?_)
      · exact absurd c_3 (by decide)
      · refine lv_iconst (v := 0) hx hb dX8_litresToReach_59 (by decide) ?_
        exact wc_iret hx hb hr hlocks hP hS rfl dX8_litresToReach_60
    · exact absurd c_2 (by decide)
  · exact absurd c_1 (by decide)

set_option maxRecDepth 100000 in
set_option maxHeartbeats 1000000 in
theorem c_X8_litresToReach_no3 (l : Launch) (G : va_G) (cy : Nat → ClassId) (am aS aBf aAs aSv aPa aOu aTx aCo K OM LN PO CM : Nat) (iS th iw ea fa : Int32) (σ : St) (j : Nat) (t g : Int32) (ho : Ok σ) (hj : j < nB σ) (ht9 : inR t 0 2 = true) (hg9 : ¬ inR g 0 99 = true) : WC l yX8_litresToReach wsX8_litresToReach { frames := 2, cells := 0, slots := 0, locals := 43 } G (PB G cy [(am, .inr (12, [.ref aS, .ref aBf, .ref aAs, .ref aSv, .int iS, .ref aPa, .int (nI K), .int th, .ref aOu, .int (nI OM), .ref aTx, .int (nI LN), .int (nI PO), .int iw, .int ea, .int fa, .ref aCo, .int (nI CM)])), (aS, .inl (cy 2, 89, .inl (encS σ)))]) [.ref am, .int (nI j), .int t, .int g] [(am, .inr (12, [.ref aS, .ref aBf, .ref aAs, .ref aSv, .int iS, .ref aPa, .int (nI K), .int th, .ref aOu, .int (nI OM), .ref aTx, .int (nI LN), .int (nI PO), .int iw, .int ea, .int fa, .ref aCo, .int (nI CM)])), (aS, .inl (cy 2, 89, .inl (encS σ)))] [(am, .inr (12, [.ref aS, .ref aBf, .ref aAs, .ref aSv, .int iS, .ref aPa, .int (nI K), .int 2, .ref aOu, .int (nI OM), .ref aTx, .int (nI LN), .int (nI PO), .int iw, .int ea, .int fa, .ref aCo, .int (nI CM)])), (aS, .inl (cy 2, 89, .inl (encS σ)))] (some (.int 0)) := by
  refine WC.ofW (cc := cX8_litresToReach) (maxL := 6) (ret := (some .int)) (by decide) rfl (Nat.le_of_ble_eq_true rfl) ?_
  intro p e s m below meth c S9 hr hlocks hPB hD hS ls hl
  obtain ⟨hx, hb, hml, hown, hts⟩ := id S9
  obtain ⟨hP, hK⟩ := hPB
  have hl : lv_has ls 6 [(0, .ref am), (1, .int (nI j)), (2, .int t), (3, .int g)] := hl
  have hP : va_P G vwCl [(am, .inr (12, [.ref aS, .ref aBf, .ref aAs, .ref aSv, .int iS, .ref aPa, .int (nI K), .int th, .ref aOu, .int (nI OM), .ref aTx, .int (nI LN), .int (nI PO), .int iw, .int ea, .int fa, .ref aCo, .int (nI CM)])), (aS, .inl (cy 2, 89, .inl (encT (nB σ) (vB σ) (hB σ) (pB σ) (mB σ) (nD σ) (bD σ) (lD σ) (uD σ) (qD σ) (wD σ) (nE σ) (kE σ) (bE σ) (lE σ) (tT σ) (dT σ) (aT σ) (rT σ) (hT σ) (xT σ))))] s.heap := hP
  have hD0 := hD
  have hD : va_D (wA [(am, .inr (12, [.ref aS, .ref aBf, .ref aAs, .ref aSv, .int iS, .ref aPa, .int (nI K), .int th, .ref aOu, .int (nI OM), .ref aTx, .int (nI LN), .int (nI PO), .int iw, .int ea, .int fa, .ref aCo, .int (nI CM)])), (aS, .inl (cy 2, 89, .inl (encS σ)))]) [(am, .inr (12, [.ref aS, .ref aBf, .ref aAs, .ref aSv, .int iS, .ref aPa, .int (nI K), .int th, .ref aOu, .int (nI OM), .ref aTx, .int (nI LN), .int (nI PO), .int iw, .int ea, .int fa, .ref aCo, .int (nI CM)])), (aS, .inl (cy 2, 89, .inl (encT (nB σ) (vB σ) (hB σ) (pB σ) (mB σ) (nD σ) (bD σ) (lD σ) (uD σ) (qD σ) (wD σ) (nE σ) (kE σ) (bE σ) (lE σ) (tT σ) (dT σ) (aT σ) (rT σ) (hT σ) (xT σ))))] := hD
  have hi12 : ∀ w ∈ wsX80, w ∈ wsX8_litresToReach := by decide +kernel
  have hf42 := hts (.fieldLink RX8 42 "BathLeagueModel" "thrown" "I") (by decide +kernel)
  have hN0 := ho.1
  have hM0 := ho.2.1
  have hE0 := ho.2.2.1
  have hF := m_inI hj (by omega)
  refine lv_aload_n hx hb dX8_litresToReach_0 rfl (lv_at hl 0 rfl) ?_
  refine lv_aload_n hx hb dX8_litresToReach_1 rfl (lv_at hl 0 rfl) ?_
  refine lv_iload_n hx hb dX8_litresToReach_2 rfl (lv_at hl 1 rfl) ?_
  refine c_roVi S9 (c_X8_isBath l G cy am aS aBf aAs aSv aPa aOu aTx aCo K OM LN PO CM iS th iw ea fa (nB σ) (vB σ) (hB σ) (pB σ) (mB σ) (nD σ) (bD σ) (lD σ) (uD σ) (qD σ) (wD σ) (nE σ) (kE σ) (bE σ) (lE σ) (tT σ) (dT σ) (aT σ) (rT σ) (hT σ) (xT σ) (nI j) ho.1) (cwV 1 hts gX8_litresToReach_X8_isBath rfl rfl rfl (by decide +kernel) ⟨Nat.le_of_ble_eq_true rfl, Nat.le_of_ble_eq_true rfl⟩) PB.blind (va_recv hK.1 hP (ci := 12) (q0 := 0) rfl rfl) (PB.at hK (m_Ppart hP [0, 1] rfl)) rfl hl.1 rfl (Nat.le_of_ble_eq_true rfl) ⟨Nat.zero_le _, Nat.zero_le _⟩ dX8_litresToReach_3 ?_
  refine lv_t0 (if_pos hF) ?_
  refine lv_if_ne (tgt := 13) hx hb dX8_litresToReach_6 (by decide) (fun c_1 => ?_) (fun c_1 => ?_)
  · refine lv_iload_n hx hb dX8_litresToReach_13 rfl (lv_at hl 2 rfl) ?_
    refine lv_iconst (v := 0) hx hb dX8_litresToReach_14 (by decide) ?_
    refine lv_iconst (v := 2) hx hb dX8_litresToReach_15 (by decide) ?_
    refine c_roSi S9 (c_X8_in l G cy t 0 2) (va_cwS 3 hts gX8_litresToReach_X8_in rfl rfl rfl (by decide +kernel) ⟨Nat.le_of_ble_eq_true rfl, Nat.le_of_ble_eq_true rfl⟩) PB.blind (PB.at hK (m_Ppart hP [] rfl)) rfl hl.1 rfl (Nat.le_of_ble_eq_true rfl) ⟨Nat.zero_le _, Nat.zero_le _⟩ dX8_litresToReach_16 ?_
    refine lv_t0 (if_pos ht9) ?_
    refine lv_if_eq (tgt := 32) hx hb dX8_litresToReach_19 (by decide) (fun c_2 => ?_) (fun c_2 => ?_)
    · exact absurd c_2 (by decide)
    · refine lv_iload_n hx hb dX8_litresToReach_22 rfl (lv_at hl 3 rfl) ?_
      refine lv_iconst (v := 0) hx hb dX8_litresToReach_23 (by decide) ?_
      refine lv_bipush (v := 99) hx hb dX8_litresToReach_24 (by decide) ?_
      refine c_roSi S9 (c_X8_in l G cy g 0 99) (va_cwS 3 hts gX8_litresToReach_X8_in rfl rfl rfl (by decide +kernel) ⟨Nat.le_of_ble_eq_true rfl, Nat.le_of_ble_eq_true rfl⟩) PB.blind (PB.at hK (m_Ppart hP [] rfl)) rfl hl.1 rfl (Nat.le_of_ble_eq_true rfl) ⟨Nat.zero_le _, Nat.zero_le _⟩ dX8_litresToReach_26 ?_
      refine lv_t0 (if_neg hg9) ?_
      refine lv_if_ne (tgt := 36) hx hb dX8_litresToReach_29 (by decide) (fun c_3 => ?_) (fun c_3 => ?_)
      · exact absurd c_3 (by decide)
      · refine lv_iconst (v := 2) hx hb dX8_litresToReach_32 (by decide) ?_
        refine lv_goto (tgt := 49) hx hb dX8_litresToReach_33 (by decide) ?_
        refine va_put (D := G) (ci := 12) (v := .int 2) (ty := .int) (C := RX8) (T := TX8) (N := 18) hx hb hts hi12 tyX8 tyX8_ok nmX8 hown hK.1 hP hD hS 0 rfl rfl 7 (by decide) hf42 (fun _ h9 => h9) rfl (by decide +kernel) rfl rfl (Nat.le_of_ble_eq_true rfl) dX8_litresToReach_49 (fun H locs hP hD hS => ?_)
        have hP : va_P G vwCl [(am, .inr (12, [.ref aS, .ref aBf, .ref aAs, .ref aSv, .int iS, .ref aPa, .int (nI K), .int 2, .ref aOu, .int (nI OM), .ref aTx, .int (nI LN), .int (nI PO), .int iw, .int ea, .int fa, .ref aCo, .int (nI CM)])), (aS, .inl (cy 2, 89, .inl (encT (nB σ) (vB σ) (hB σ) (pB σ) (mB σ) (nD σ) (bD σ) (lD σ) (uD σ) (qD σ) (wD σ) (nE σ) (kE σ) (bE σ) (lE σ) (tT σ) (dT σ) (aT σ) (rT σ) (hT σ) (xT σ))))] H := hP
        have hD : va_D (wA [(am, .inr (12, [.ref aS, .ref aBf, .ref aAs, .ref aSv, .int iS, .ref aPa, .int (nI K), .int th, .ref aOu, .int (nI OM), .ref aTx, .int (nI LN), .int (nI PO), .int iw, .int ea, .int fa, .ref aCo, .int (nI CM)])), (aS, .inl (cy 2, 89, .inl (encS σ)))]) [(am, .inr (12, [.ref aS, .ref aBf, .ref aAs, .ref aSv, .int iS, .ref aPa, .int (nI K), .int 2, .ref aOu, .int (nI OM), .ref aTx, .int (nI LN), .int (nI PO), .int iw, .int ea, .int fa, .ref aCo, .int (nI CM)])), (aS, .inl (cy 2, 89, .inl (encT (nB σ) (vB σ) (hB σ) (pB σ) (mB σ) (nD σ) (bD σ) (lD σ) (uD σ) (qD σ) (wD σ) (nE σ) (kE σ) (bE σ) (lE σ) (tT σ) (dT σ) (aT σ) (rT σ) (hT σ) (xT σ))))] := hD
        refine lv_aload_n hx hb dX8_litresToReach_52 rfl (lv_at hl 0 rfl) ?_
        refine va_get (D := G) (ci := 12) (v := .int 2) (C := RX8) (T := TX8) (N := 18) hx hb hts hi12 hown hK.1 hP 0 rfl rfl 7 (by decide) hf42 (fun _ h9 => h9) rfl dX8_litresToReach_53 ?_
        refine lv_if_le (tgt := 61) hx hb dX8_litresToReach_56 (by decide) (fun c_4 => ?_) (fun c_4 => ?_)
        · exact absurd c_4 (by decide)
        · refine lv_iconst (v := 0) hx hb dX8_litresToReach_59 (by decide) ?_
          exact wc_iret hx hb hr hlocks hP hS rfl dX8_litresToReach_60
  · exact absurd c_1 (by decide)

set_option maxRecDepth 100000 in
set_option maxHeartbeats 1000000 in
theorem c_X8_litresToReach_no5 (l : Launch) (G : va_G) (cy : Nat → ClassId) (am aS aBf aAs aSv aPa aOu aTx aCo K OM LN PO CM : Nat) (iS th iw ea fa : Int32) (σ : St) (j : Nat) (t g : Int32) (ho : Ok σ) (hj : j < nB σ) (ht9 : inR t 0 2 = true) (hg9 : inR g 0 99 = true) (hwt : ¬ wet (vB σ) j = true) : WC l yX8_litresToReach wsX8_litresToReach { frames := 2, cells := 0, slots := 0, locals := 43 } G (PB G cy [(am, .inr (12, [.ref aS, .ref aBf, .ref aAs, .ref aSv, .int iS, .ref aPa, .int (nI K), .int th, .ref aOu, .int (nI OM), .ref aTx, .int (nI LN), .int (nI PO), .int iw, .int ea, .int fa, .ref aCo, .int (nI CM)])), (aS, .inl (cy 2, 89, .inl (encS σ)))]) [.ref am, .int (nI j), .int t, .int g] [(am, .inr (12, [.ref aS, .ref aBf, .ref aAs, .ref aSv, .int iS, .ref aPa, .int (nI K), .int th, .ref aOu, .int (nI OM), .ref aTx, .int (nI LN), .int (nI PO), .int iw, .int ea, .int fa, .ref aCo, .int (nI CM)])), (aS, .inl (cy 2, 89, .inl (encS σ)))] [(am, .inr (12, [.ref aS, .ref aBf, .ref aAs, .ref aSv, .int iS, .ref aPa, .int (nI K), .int 3, .ref aOu, .int (nI OM), .ref aTx, .int (nI LN), .int (nI PO), .int iw, .int ea, .int fa, .ref aCo, .int (nI CM)])), (aS, .inl (cy 2, 89, .inl (encS σ)))] (some (.int 0)) := by
  refine WC.ofW (cc := cX8_litresToReach) (maxL := 6) (ret := (some .int)) (by decide) rfl (Nat.le_of_ble_eq_true rfl) ?_
  intro p e s m below meth c S9 hr hlocks hPB hD hS ls hl
  obtain ⟨hx, hb, hml, hown, hts⟩ := id S9
  obtain ⟨hP, hK⟩ := hPB
  have hl : lv_has ls 6 [(0, .ref am), (1, .int (nI j)), (2, .int t), (3, .int g)] := hl
  have hP : va_P G vwCl [(am, .inr (12, [.ref aS, .ref aBf, .ref aAs, .ref aSv, .int iS, .ref aPa, .int (nI K), .int th, .ref aOu, .int (nI OM), .ref aTx, .int (nI LN), .int (nI PO), .int iw, .int ea, .int fa, .ref aCo, .int (nI CM)])), (aS, .inl (cy 2, 89, .inl (encT (nB σ) (vB σ) (hB σ) (pB σ) (mB σ) (nD σ) (bD σ) (lD σ) (uD σ) (qD σ) (wD σ) (nE σ) (kE σ) (bE σ) (lE σ) (tT σ) (dT σ) (aT σ) (rT σ) (hT σ) (xT σ))))] s.heap := hP
  have hD0 := hD
  have hD : va_D (wA [(am, .inr (12, [.ref aS, .ref aBf, .ref aAs, .ref aSv, .int iS, .ref aPa, .int (nI K), .int th, .ref aOu, .int (nI OM), .ref aTx, .int (nI LN), .int (nI PO), .int iw, .int ea, .int fa, .ref aCo, .int (nI CM)])), (aS, .inl (cy 2, 89, .inl (encS σ)))]) [(am, .inr (12, [.ref aS, .ref aBf, .ref aAs, .ref aSv, .int iS, .ref aPa, .int (nI K), .int th, .ref aOu, .int (nI OM), .ref aTx, .int (nI LN), .int (nI PO), .int iw, .int ea, .int fa, .ref aCo, .int (nI CM)])), (aS, .inl (cy 2, 89, .inl (encT (nB σ) (vB σ) (hB σ) (pB σ) (mB σ) (nD σ) (bD σ) (lD σ) (uD σ) (qD σ) (wD σ) (nE σ) (kE σ) (bE σ) (lE σ) (tT σ) (dT σ) (aT σ) (rT σ) (hT σ) (xT σ))))] := hD
  have hi12 : ∀ w ∈ wsX80, w ∈ wsX8_litresToReach := by decide +kernel
  have hf42 := hts (.fieldLink RX8 42 "BathLeagueModel" "thrown" "I") (by decide +kernel)
  have hN0 := ho.1
  have hM0 := ho.2.1
  have hE0 := ho.2.2.1
  have hF := m_inI hj (by omega)
  refine lv_aload_n hx hb dX8_litresToReach_0 rfl (lv_at hl 0 rfl) ?_
  refine lv_aload_n hx hb dX8_litresToReach_1 rfl (lv_at hl 0 rfl) ?_
  refine lv_iload_n hx hb dX8_litresToReach_2 rfl (lv_at hl 1 rfl) ?_
  refine c_roVi S9 (c_X8_isBath l G cy am aS aBf aAs aSv aPa aOu aTx aCo K OM LN PO CM iS th iw ea fa (nB σ) (vB σ) (hB σ) (pB σ) (mB σ) (nD σ) (bD σ) (lD σ) (uD σ) (qD σ) (wD σ) (nE σ) (kE σ) (bE σ) (lE σ) (tT σ) (dT σ) (aT σ) (rT σ) (hT σ) (xT σ) (nI j) ho.1) (cwV 1 hts gX8_litresToReach_X8_isBath rfl rfl rfl (by decide +kernel) ⟨Nat.le_of_ble_eq_true rfl, Nat.le_of_ble_eq_true rfl⟩) PB.blind (va_recv hK.1 hP (ci := 12) (q0 := 0) rfl rfl) (PB.at hK (m_Ppart hP [0, 1] rfl)) rfl hl.1 rfl (Nat.le_of_ble_eq_true rfl) ⟨Nat.zero_le _, Nat.zero_le _⟩ dX8_litresToReach_3 ?_
  refine lv_t0 (if_pos hF) ?_
  refine lv_if_ne (tgt := 13) hx hb dX8_litresToReach_6 (by decide) (fun c_1 => ?_) (fun c_1 => ?_)
  · refine lv_iload_n hx hb dX8_litresToReach_13 rfl (lv_at hl 2 rfl) ?_
    refine lv_iconst (v := 0) hx hb dX8_litresToReach_14 (by decide) ?_
    refine lv_iconst (v := 2) hx hb dX8_litresToReach_15 (by decide) ?_
    refine c_roSi S9 (c_X8_in l G cy t 0 2) (va_cwS 3 hts gX8_litresToReach_X8_in rfl rfl rfl (by decide +kernel) ⟨Nat.le_of_ble_eq_true rfl, Nat.le_of_ble_eq_true rfl⟩) PB.blind (PB.at hK (m_Ppart hP [] rfl)) rfl hl.1 rfl (Nat.le_of_ble_eq_true rfl) ⟨Nat.zero_le _, Nat.zero_le _⟩ dX8_litresToReach_16 ?_
    refine lv_t0 (if_pos ht9) ?_
    refine lv_if_eq (tgt := 32) hx hb dX8_litresToReach_19 (by decide) (fun c_2 => ?_) (fun c_2 => ?_)
    · exact absurd c_2 (by decide)
    · refine lv_iload_n hx hb dX8_litresToReach_22 rfl (lv_at hl 3 rfl) ?_
      refine lv_iconst (v := 0) hx hb dX8_litresToReach_23 (by decide) ?_
      refine lv_bipush (v := 99) hx hb dX8_litresToReach_24 (by decide) ?_
      refine c_roSi S9 (c_X8_in l G cy g 0 99) (va_cwS 3 hts gX8_litresToReach_X8_in rfl rfl rfl (by decide +kernel) ⟨Nat.le_of_ble_eq_true rfl, Nat.le_of_ble_eq_true rfl⟩) PB.blind (PB.at hK (m_Ppart hP [] rfl)) rfl hl.1 rfl (Nat.le_of_ble_eq_true rfl) ⟨Nat.zero_le _, Nat.zero_le _⟩ dX8_litresToReach_26 ?_
      refine lv_t0 (if_pos hg9) ?_
      refine lv_if_ne (tgt := 36) hx hb dX8_litresToReach_29 (by decide) (fun c_3 => ?_) (fun c_3 => ?_)
      · refine lv_aload_n hx hb dX8_litresToReach_36 rfl (lv_at hl 0 rfl) ?_
        refine lv_iload_n hx hb dX8_litresToReach_37 rfl (lv_at hl 1 rfl) ?_
        refine c_roVi S9 (c_X8_isWet l G cy am aS aBf aAs aSv aPa aOu aTx aCo K OM LN PO CM iS th iw ea fa (nB σ) (vB σ) (hB σ) (pB σ) (mB σ) (nD σ) (bD σ) (lD σ) (uD σ) (qD σ) (wD σ) (nE σ) (kE σ) (bE σ) (lE σ) (tT σ) (dT σ) (aT σ) (rT σ) (hT σ) (xT σ) j (by omega)) (cwV 1 hts gX8_litresToReach_X8_isWet rfl rfl rfl (by decide +kernel) ⟨Nat.le_of_ble_eq_true rfl, Nat.le_of_ble_eq_true rfl⟩) PB.blind (va_recv hK.1 hP (ci := 12) (q0 := 0) rfl rfl) (PB.at hK (m_Ppart hP [0, 1] rfl)) rfl hl.1 rfl (Nat.le_of_ble_eq_true rfl) ⟨Nat.zero_le _, Nat.zero_le _⟩ dX8_litresToReach_38 ?_
        refine lv_t0 (if_neg hwt) ?_
        refine lv_if_ne (tgt := 48) hx hb dX8_litresToReach_41 (by decide) (fun c_4 => ?_) (fun c_4 => ?_)
        · exact absurd c_4 (by decide)
        · refine lv_iconst (v := 3) hx hb dX8_litresToReach_44 (by decide) ?_
          refine lv_goto (tgt := 49) hx hb dX8_litresToReach_45 (by decide) ?_
          refine va_put (D := G) (ci := 12) (v := .int 3) (ty := .int) (C := RX8) (T := TX8) (N := 18) hx hb hts hi12 tyX8 tyX8_ok nmX8 hown hK.1 hP hD hS 0 rfl rfl 7 (by decide) hf42 (fun _ h9 => h9) rfl (by decide +kernel) rfl rfl (Nat.le_of_ble_eq_true rfl) dX8_litresToReach_49 (fun H locs hP hD hS => ?_)
          have hP : va_P G vwCl [(am, .inr (12, [.ref aS, .ref aBf, .ref aAs, .ref aSv, .int iS, .ref aPa, .int (nI K), .int 3, .ref aOu, .int (nI OM), .ref aTx, .int (nI LN), .int (nI PO), .int iw, .int ea, .int fa, .ref aCo, .int (nI CM)])), (aS, .inl (cy 2, 89, .inl (encT (nB σ) (vB σ) (hB σ) (pB σ) (mB σ) (nD σ) (bD σ) (lD σ) (uD σ) (qD σ) (wD σ) (nE σ) (kE σ) (bE σ) (lE σ) (tT σ) (dT σ) (aT σ) (rT σ) (hT σ) (xT σ))))] H := hP
          have hD : va_D (wA [(am, .inr (12, [.ref aS, .ref aBf, .ref aAs, .ref aSv, .int iS, .ref aPa, .int (nI K), .int th, .ref aOu, .int (nI OM), .ref aTx, .int (nI LN), .int (nI PO), .int iw, .int ea, .int fa, .ref aCo, .int (nI CM)])), (aS, .inl (cy 2, 89, .inl (encS σ)))]) [(am, .inr (12, [.ref aS, .ref aBf, .ref aAs, .ref aSv, .int iS, .ref aPa, .int (nI K), .int 3, .ref aOu, .int (nI OM), .ref aTx, .int (nI LN), .int (nI PO), .int iw, .int ea, .int fa, .ref aCo, .int (nI CM)])), (aS, .inl (cy 2, 89, .inl (encT (nB σ) (vB σ) (hB σ) (pB σ) (mB σ) (nD σ) (bD σ) (lD σ) (uD σ) (qD σ) (wD σ) (nE σ) (kE σ) (bE σ) (lE σ) (tT σ) (dT σ) (aT σ) (rT σ) (hT σ) (xT σ))))] := hD
          refine lv_aload_n hx hb dX8_litresToReach_52 rfl (lv_at hl 0 rfl) ?_
          refine va_get (D := G) (ci := 12) (v := .int 3) (C := RX8) (T := TX8) (N := 18) hx hb hts hi12 hown hK.1 hP 0 rfl rfl 7 (by decide) hf42 (fun _ h9 => h9) rfl dX8_litresToReach_53 ?_
          refine lv_if_le (tgt := 61) hx hb dX8_litresToReach_56 (by decide) (fun c_5 => ?_) (fun c_5 => ?_)
          · exact absurd c_5 (by decide)
          · refine lv_iconst (v := 0) hx hb dX8_litresToReach_59 (by decide) ?_
            exact wc_iret hx hb hr hlocks hP hS rfl dX8_litresToReach_60
      · exact absurd c_3 (by decide)
  · exact absurd c_1 (by decide)

set_option maxRecDepth 100000 in
set_option maxHeartbeats 1000000 in
theorem c_X8_litresToReachByFormula_ok (l : Launch) (G : va_G) (cy : Nat → ClassId) (am aS aBf aAs aSv aPa aOu aTx aCo K OM LN PO CM : Nat) (iS th iw ea fa : Int32) (σ : St) (j : Nat) (t g R9 : Int32) (ho : Ok σ) (hj : j < nB σ) (hbd : Bd (vB σ) (hB σ)) (ht9 : inR t 0 2 = true) (hg9 : inR g 0 99 = true) (hwt : wet (vB σ) j = true) (hR0 : atF (fun k9 => (if (if t = 0 then rdeg (hB σ j + nI k9 * (10 + 30 * t)) (vB σ j + nI k9) ≤ g else ¬ rdeg (hB σ j + nI k9 * (10 + 30 * t)) (vB σ j + nI k9) < g) then (1 : Int32) else 0)) 1 0 (101 - bx (vB σ j)) = R9) (hR1 : ¬ R9 = -1) : WC l yX8_litresToReachByFormula wsX8_litresToReachByFormula { frames := 3, cells := 0, slots := 0, locals := 68 } G (PB G cy [(am, .inr (12, [.ref aS, .ref aBf, .ref aAs, .ref aSv, .int iS, .ref aPa, .int (nI K), .int th, .ref aOu, .int (nI OM), .ref aTx, .int (nI LN), .int (nI PO), .int iw, .int ea, .int fa, .ref aCo, .int (nI CM)])), (aS, .inl (cy 2, 89, .inl (encS σ)))]) [.ref am, .int (nI j), .int t, .int g] [(am, .inr (12, [.ref aS, .ref aBf, .ref aAs, .ref aSv, .int iS, .ref aPa, .int (nI K), .int th, .ref aOu, .int (nI OM), .ref aTx, .int (nI LN), .int (nI PO), .int iw, .int ea, .int fa, .ref aCo, .int (nI CM)])), (aS, .inl (cy 2, 89, .inl (encS σ)))] [(am, .inr (12, [.ref aS, .ref aBf, .ref aAs, .ref aSv, .int iS, .ref aPa, .int (nI K), .int 0, .ref aOu, .int (nI OM), .ref aTx, .int (nI LN), .int (nI PO), .int iw, .int ea, .int fa, .ref aCo, .int (nI CM)])), (aS, .inl (cy 2, 89, .inl (encS σ)))] (some (.int R9)) := by
  refine WC.ofW (cc := cX8_litresToReachByFormula) (maxL := 4) (ret := (some .int)) (by decide) rfl (Nat.le_of_ble_eq_true rfl) ?_
  intro p e s m below meth c S9 hr hlocks hPB hD hS ls hl
  obtain ⟨hx, hb, hml, hown, hts⟩ := id S9
  obtain ⟨hP, hK⟩ := hPB
  have hl : lv_has ls 4 [(0, .ref am), (1, .int (nI j)), (2, .int t), (3, .int g)] := hl
  have hP : va_P G vwCl [(am, .inr (12, [.ref aS, .ref aBf, .ref aAs, .ref aSv, .int iS, .ref aPa, .int (nI K), .int th, .ref aOu, .int (nI OM), .ref aTx, .int (nI LN), .int (nI PO), .int iw, .int ea, .int fa, .ref aCo, .int (nI CM)])), (aS, .inl (cy 2, 89, .inl (encT (nB σ) (vB σ) (hB σ) (pB σ) (mB σ) (nD σ) (bD σ) (lD σ) (uD σ) (qD σ) (wD σ) (nE σ) (kE σ) (bE σ) (lE σ) (tT σ) (dT σ) (aT σ) (rT σ) (hT σ) (xT σ))))] s.heap := hP
  have hD0 := hD
  have hD : va_D (wA [(am, .inr (12, [.ref aS, .ref aBf, .ref aAs, .ref aSv, .int iS, .ref aPa, .int (nI K), .int th, .ref aOu, .int (nI OM), .ref aTx, .int (nI LN), .int (nI PO), .int iw, .int ea, .int fa, .ref aCo, .int (nI CM)])), (aS, .inl (cy 2, 89, .inl (encS σ)))]) [(am, .inr (12, [.ref aS, .ref aBf, .ref aAs, .ref aSv, .int iS, .ref aPa, .int (nI K), .int th, .ref aOu, .int (nI OM), .ref aTx, .int (nI LN), .int (nI PO), .int iw, .int ea, .int fa, .ref aCo, .int (nI CM)])), (aS, .inl (cy 2, 89, .inl (encT (nB σ) (vB σ) (hB σ) (pB σ) (mB σ) (nD σ) (bD σ) (lD σ) (uD σ) (qD σ) (wD σ) (nE σ) (kE σ) (bE σ) (lE σ) (tT σ) (dT σ) (aT σ) (rT σ) (hT σ) (xT σ))))] := hD
  have hN0 := ho.1
  have hM0 := ho.2.1
  have hE0 := ho.2.2.1
  refine lv_aload_n hx hb dX8_litresToReachByFormula_0 rfl (lv_at hl 0 rfl) ?_
  refine lv_iload_n hx hb dX8_litresToReachByFormula_1 rfl (lv_at hl 1 rfl) ?_
  refine lv_iload_n hx hb dX8_litresToReachByFormula_2 rfl (lv_at hl 2 rfl) ?_
  refine lv_iload_n hx hb dX8_litresToReachByFormula_3 rfl (lv_at hl 3 rfl) ?_
  refine c_wcVi (ws' := [(am, .inr (12, [.ref aS, .ref aBf, .ref aAs, .ref aSv, .int iS, .ref aPa, .int (nI K), .int 0, .ref aOu, .int (nI OM), .ref aTx, .int (nI LN), .int (nI PO), .int iw, .int ea, .int fa, .ref aCo, .int (nI CM)])), (aS, .inl (cy 2, 89, .inl (encT (nB σ) (vB σ) (hB σ) (pB σ) (mB σ) (nD σ) (bD σ) (lD σ) (uD σ) (qD σ) (wD σ) (nE σ) (kE σ) (bE σ) (lE σ) (tT σ) (dT σ) (aT σ) (rT σ) (hT σ) (xT σ))))]) S9 (c_X8_litresToReach_ok l G cy am aS aBf aAs aSv aPa aOu aTx aCo K OM LN PO CM iS th iw ea fa σ j t g R9 ho hj hbd ht9 hg9 hwt hR0 hR1) (cwV 3 hts gX8_litresToReachByFormula_X8_litresToReach rfl rfl rfl (by decide +kernel) ⟨Nat.le_of_ble_eq_true rfl, Nat.le_of_ble_eq_true rfl⟩) PB.blind (va_recv hK.1 hP (ci := 12) (q0 := 0) rfl rfl) (PB.at hK (m_Ppart hP [0, 1] rfl)) hP hD hS [0, 1] rfl rfl m_f2 rfl rfl hl.1 rfl (Nat.le_of_ble_eq_true rfl) ⟨Nat.zero_le _, Nat.zero_le _⟩ dX8_litresToReachByFormula_4 (fun H locs hP hD hS => ?_)
  exact wc_iret hx hb hr hlocks hP hS rfl dX8_litresToReachByFormula_7

set_option maxRecDepth 100000 in
set_option maxHeartbeats 1000000 in
theorem c_X8_litresToReachByFormula_no4 (l : Launch) (G : va_G) (cy : Nat → ClassId) (am aS aBf aAs aSv aPa aOu aTx aCo K OM LN PO CM : Nat) (iS th iw ea fa : Int32) (σ : St) (j : Nat) (t g : Int32) (ho : Ok σ) (hj : j < nB σ) (hbd : Bd (vB σ) (hB σ)) (ht9 : inR t 0 2 = true) (hg9 : inR g 0 99 = true) (hwt : wet (vB σ) j = true) (hR0 : atF (fun k9 => (if (if t = 0 then rdeg (hB σ j + nI k9 * (10 + 30 * t)) (vB σ j + nI k9) ≤ g else ¬ rdeg (hB σ j + nI k9 * (10 + 30 * t)) (vB σ j + nI k9) < g) then (1 : Int32) else 0)) 1 0 (101 - bx (vB σ j)) = -1) : WC l yX8_litresToReachByFormula wsX8_litresToReachByFormula { frames := 3, cells := 0, slots := 0, locals := 68 } G (PB G cy [(am, .inr (12, [.ref aS, .ref aBf, .ref aAs, .ref aSv, .int iS, .ref aPa, .int (nI K), .int th, .ref aOu, .int (nI OM), .ref aTx, .int (nI LN), .int (nI PO), .int iw, .int ea, .int fa, .ref aCo, .int (nI CM)])), (aS, .inl (cy 2, 89, .inl (encS σ)))]) [.ref am, .int (nI j), .int t, .int g] [(am, .inr (12, [.ref aS, .ref aBf, .ref aAs, .ref aSv, .int iS, .ref aPa, .int (nI K), .int th, .ref aOu, .int (nI OM), .ref aTx, .int (nI LN), .int (nI PO), .int iw, .int ea, .int fa, .ref aCo, .int (nI CM)])), (aS, .inl (cy 2, 89, .inl (encS σ)))] [(am, .inr (12, [.ref aS, .ref aBf, .ref aAs, .ref aSv, .int iS, .ref aPa, .int (nI K), .int 4, .ref aOu, .int (nI OM), .ref aTx, .int (nI LN), .int (nI PO), .int iw, .int ea, .int fa, .ref aCo, .int (nI CM)])), (aS, .inl (cy 2, 89, .inl (encS σ)))] (some (.int 0)) := by
  refine WC.ofW (cc := cX8_litresToReachByFormula) (maxL := 4) (ret := (some .int)) (by decide) rfl (Nat.le_of_ble_eq_true rfl) ?_
  intro p e s m below meth c S9 hr hlocks hPB hD hS ls hl
  obtain ⟨hx, hb, hml, hown, hts⟩ := id S9
  obtain ⟨hP, hK⟩ := hPB
  have hl : lv_has ls 4 [(0, .ref am), (1, .int (nI j)), (2, .int t), (3, .int g)] := hl
  have hP : va_P G vwCl [(am, .inr (12, [.ref aS, .ref aBf, .ref aAs, .ref aSv, .int iS, .ref aPa, .int (nI K), .int th, .ref aOu, .int (nI OM), .ref aTx, .int (nI LN), .int (nI PO), .int iw, .int ea, .int fa, .ref aCo, .int (nI CM)])), (aS, .inl (cy 2, 89, .inl (encT (nB σ) (vB σ) (hB σ) (pB σ) (mB σ) (nD σ) (bD σ) (lD σ) (uD σ) (qD σ) (wD σ) (nE σ) (kE σ) (bE σ) (lE σ) (tT σ) (dT σ) (aT σ) (rT σ) (hT σ) (xT σ))))] s.heap := hP
  have hD0 := hD
  have hD : va_D (wA [(am, .inr (12, [.ref aS, .ref aBf, .ref aAs, .ref aSv, .int iS, .ref aPa, .int (nI K), .int th, .ref aOu, .int (nI OM), .ref aTx, .int (nI LN), .int (nI PO), .int iw, .int ea, .int fa, .ref aCo, .int (nI CM)])), (aS, .inl (cy 2, 89, .inl (encS σ)))]) [(am, .inr (12, [.ref aS, .ref aBf, .ref aAs, .ref aSv, .int iS, .ref aPa, .int (nI K), .int th, .ref aOu, .int (nI OM), .ref aTx, .int (nI LN), .int (nI PO), .int iw, .int ea, .int fa, .ref aCo, .int (nI CM)])), (aS, .inl (cy 2, 89, .inl (encT (nB σ) (vB σ) (hB σ) (pB σ) (mB σ) (nD σ) (bD σ) (lD σ) (uD σ) (qD σ) (wD σ) (nE σ) (kE σ) (bE σ) (lE σ) (tT σ) (dT σ) (aT σ) (rT σ) (hT σ) (xT σ))))] := hD
  have hN0 := ho.1
  have hM0 := ho.2.1
  have hE0 := ho.2.2.1
  refine lv_aload_n hx hb dX8_litresToReachByFormula_0 rfl (lv_at hl 0 rfl) ?_
  refine lv_iload_n hx hb dX8_litresToReachByFormula_1 rfl (lv_at hl 1 rfl) ?_
  refine lv_iload_n hx hb dX8_litresToReachByFormula_2 rfl (lv_at hl 2 rfl) ?_
  refine lv_iload_n hx hb dX8_litresToReachByFormula_3 rfl (lv_at hl 3 rfl) ?_
  refine c_wcVi (ws' := [(am, .inr (12, [.ref aS, .ref aBf, .ref aAs, .ref aSv, .int iS, .ref aPa, .int (nI K), .int 4, .ref aOu, .int (nI OM), .ref aTx, .int (nI LN), .int (nI PO), .int iw, .int ea, .int fa, .ref aCo, .int (nI CM)])), (aS, .inl (cy 2, 89, .inl (encT (nB σ) (vB σ) (hB σ) (pB σ) (mB σ) (nD σ) (bD σ) (lD σ) (uD σ) (qD σ) (wD σ) (nE σ) (kE σ) (bE σ) (lE σ) (tT σ) (dT σ) (aT σ) (rT σ) (hT σ) (xT σ))))]) S9 (c_X8_litresToReach_no4 l G cy am aS aBf aAs aSv aPa aOu aTx aCo K OM LN PO CM iS th iw ea fa σ j t g ho hj hbd ht9 hg9 hwt hR0) (cwV 3 hts gX8_litresToReachByFormula_X8_litresToReach rfl rfl rfl (by decide +kernel) ⟨Nat.le_of_ble_eq_true rfl, Nat.le_of_ble_eq_true rfl⟩) PB.blind (va_recv hK.1 hP (ci := 12) (q0 := 0) rfl rfl) (PB.at hK (m_Ppart hP [0, 1] rfl)) hP hD hS [0, 1] rfl rfl m_f2 rfl rfl hl.1 rfl (Nat.le_of_ble_eq_true rfl) ⟨Nat.zero_le _, Nat.zero_le _⟩ dX8_litresToReachByFormula_4 (fun H locs hP hD hS => ?_)
  exact wc_iret hx hb hr hlocks hP hS rfl dX8_litresToReachByFormula_7

set_option maxRecDepth 100000 in
set_option maxHeartbeats 1000000 in
theorem c_X8_litresToReachByFormula_no1 (l : Launch) (G : va_G) (cy : Nat → ClassId) (am aS aBf aAs aSv aPa aOu aTx aCo K OM LN PO CM : Nat) (iS th iw ea fa : Int32) (σ : St) (b t g : Int32) (ho : Ok σ) (hF : ¬ inI b (nI (nB σ)) = true) : WC l yX8_litresToReachByFormula wsX8_litresToReachByFormula { frames := 3, cells := 0, slots := 0, locals := 68 } G (PB G cy [(am, .inr (12, [.ref aS, .ref aBf, .ref aAs, .ref aSv, .int iS, .ref aPa, .int (nI K), .int th, .ref aOu, .int (nI OM), .ref aTx, .int (nI LN), .int (nI PO), .int iw, .int ea, .int fa, .ref aCo, .int (nI CM)])), (aS, .inl (cy 2, 89, .inl (encS σ)))]) [.ref am, .int b, .int t, .int g] [(am, .inr (12, [.ref aS, .ref aBf, .ref aAs, .ref aSv, .int iS, .ref aPa, .int (nI K), .int th, .ref aOu, .int (nI OM), .ref aTx, .int (nI LN), .int (nI PO), .int iw, .int ea, .int fa, .ref aCo, .int (nI CM)])), (aS, .inl (cy 2, 89, .inl (encS σ)))] [(am, .inr (12, [.ref aS, .ref aBf, .ref aAs, .ref aSv, .int iS, .ref aPa, .int (nI K), .int 1, .ref aOu, .int (nI OM), .ref aTx, .int (nI LN), .int (nI PO), .int iw, .int ea, .int fa, .ref aCo, .int (nI CM)])), (aS, .inl (cy 2, 89, .inl (encS σ)))] (some (.int 0)) := by
  refine WC.ofW (cc := cX8_litresToReachByFormula) (maxL := 4) (ret := (some .int)) (by decide) rfl (Nat.le_of_ble_eq_true rfl) ?_
  intro p e s m below meth c S9 hr hlocks hPB hD hS ls hl
  obtain ⟨hx, hb, hml, hown, hts⟩ := id S9
  obtain ⟨hP, hK⟩ := hPB
  have hl : lv_has ls 4 [(0, .ref am), (1, .int b), (2, .int t), (3, .int g)] := hl
  have hP : va_P G vwCl [(am, .inr (12, [.ref aS, .ref aBf, .ref aAs, .ref aSv, .int iS, .ref aPa, .int (nI K), .int th, .ref aOu, .int (nI OM), .ref aTx, .int (nI LN), .int (nI PO), .int iw, .int ea, .int fa, .ref aCo, .int (nI CM)])), (aS, .inl (cy 2, 89, .inl (encT (nB σ) (vB σ) (hB σ) (pB σ) (mB σ) (nD σ) (bD σ) (lD σ) (uD σ) (qD σ) (wD σ) (nE σ) (kE σ) (bE σ) (lE σ) (tT σ) (dT σ) (aT σ) (rT σ) (hT σ) (xT σ))))] s.heap := hP
  have hD0 := hD
  have hD : va_D (wA [(am, .inr (12, [.ref aS, .ref aBf, .ref aAs, .ref aSv, .int iS, .ref aPa, .int (nI K), .int th, .ref aOu, .int (nI OM), .ref aTx, .int (nI LN), .int (nI PO), .int iw, .int ea, .int fa, .ref aCo, .int (nI CM)])), (aS, .inl (cy 2, 89, .inl (encS σ)))]) [(am, .inr (12, [.ref aS, .ref aBf, .ref aAs, .ref aSv, .int iS, .ref aPa, .int (nI K), .int th, .ref aOu, .int (nI OM), .ref aTx, .int (nI LN), .int (nI PO), .int iw, .int ea, .int fa, .ref aCo, .int (nI CM)])), (aS, .inl (cy 2, 89, .inl (encT (nB σ) (vB σ) (hB σ) (pB σ) (mB σ) (nD σ) (bD σ) (lD σ) (uD σ) (qD σ) (wD σ) (nE σ) (kE σ) (bE σ) (lE σ) (tT σ) (dT σ) (aT σ) (rT σ) (hT σ) (xT σ))))] := hD
  have hN0 := ho.1
  have hM0 := ho.2.1
  have hE0 := ho.2.2.1
  refine lv_aload_n hx hb dX8_litresToReachByFormula_0 rfl (lv_at hl 0 rfl) ?_
  refine lv_iload_n hx hb dX8_litresToReachByFormula_1 rfl (lv_at hl 1 rfl) ?_
  refine lv_iload_n hx hb dX8_litresToReachByFormula_2 rfl (lv_at hl 2 rfl) ?_
  refine lv_iload_n hx hb dX8_litresToReachByFormula_3 rfl (lv_at hl 3 rfl) ?_
  refine c_wcVi (ws' := [(am, .inr (12, [.ref aS, .ref aBf, .ref aAs, .ref aSv, .int iS, .ref aPa, .int (nI K), .int 1, .ref aOu, .int (nI OM), .ref aTx, .int (nI LN), .int (nI PO), .int iw, .int ea, .int fa, .ref aCo, .int (nI CM)])), (aS, .inl (cy 2, 89, .inl (encT (nB σ) (vB σ) (hB σ) (pB σ) (mB σ) (nD σ) (bD σ) (lD σ) (uD σ) (qD σ) (wD σ) (nE σ) (kE σ) (bE σ) (lE σ) (tT σ) (dT σ) (aT σ) (rT σ) (hT σ) (xT σ))))]) S9 (c_X8_litresToReach_no1 l G cy am aS aBf aAs aSv aPa aOu aTx aCo K OM LN PO CM iS th iw ea fa σ b t g ho hF) (cwV 3 hts gX8_litresToReachByFormula_X8_litresToReach rfl rfl rfl (by decide +kernel) ⟨Nat.le_of_ble_eq_true rfl, Nat.le_of_ble_eq_true rfl⟩) PB.blind (va_recv hK.1 hP (ci := 12) (q0 := 0) rfl rfl) (PB.at hK (m_Ppart hP [0, 1] rfl)) hP hD hS [0, 1] rfl rfl m_f2 rfl rfl hl.1 rfl (Nat.le_of_ble_eq_true rfl) ⟨Nat.zero_le _, Nat.zero_le _⟩ dX8_litresToReachByFormula_4 (fun H locs hP hD hS => ?_)
  exact wc_iret hx hb hr hlocks hP hS rfl dX8_litresToReachByFormula_7

set_option maxRecDepth 100000 in
set_option maxHeartbeats 1000000 in
theorem c_X8_litresToReachByFormula_no2 (l : Launch) (G : va_G) (cy : Nat → ClassId) (am aS aBf aAs aSv aPa aOu aTx aCo K OM LN PO CM : Nat) (iS th iw ea fa : Int32) (σ : St) (j : Nat) (t g : Int32) (ho : Ok σ) (hj : j < nB σ) (ht9 : ¬ inR t 0 2 = true) : WC l yX8_litresToReachByFormula wsX8_litresToReachByFormula { frames := 3, cells := 0, slots := 0, locals := 68 } G (PB G cy [(am, .inr (12, [.ref aS, .ref aBf, .ref aAs, .ref aSv, .int iS, .ref aPa, .int (nI K), .int th, .ref aOu, .int (nI OM), .ref aTx, .int (nI LN), .int (nI PO), .int iw, .int ea, .int fa, .ref aCo, .int (nI CM)])), (aS, .inl (cy 2, 89, .inl (encS σ)))]) [.ref am, .int (nI j), .int t, .int g] [(am, .inr (12, [.ref aS, .ref aBf, .ref aAs, .ref aSv, .int iS, .ref aPa, .int (nI K), .int th, .ref aOu, .int (nI OM), .ref aTx, .int (nI LN), .int (nI PO), .int iw, .int ea, .int fa, .ref aCo, .int (nI CM)])), (aS, .inl (cy 2, 89, .inl (encS σ)))] [(am, .inr (12, [.ref aS, .ref aBf, .ref aAs, .ref aSv, .int iS, .ref aPa, .int (nI K), .int 2, .ref aOu, .int (nI OM), .ref aTx, .int (nI LN), .int (nI PO), .int iw, .int ea, .int fa, .ref aCo, .int (nI CM)])), (aS, .inl (cy 2, 89, .inl (encS σ)))] (some (.int 0)) := by
  refine WC.ofW (cc := cX8_litresToReachByFormula) (maxL := 4) (ret := (some .int)) (by decide) rfl (Nat.le_of_ble_eq_true rfl) ?_
  intro p e s m below meth c S9 hr hlocks hPB hD hS ls hl
  obtain ⟨hx, hb, hml, hown, hts⟩ := id S9
  obtain ⟨hP, hK⟩ := hPB
  have hl : lv_has ls 4 [(0, .ref am), (1, .int (nI j)), (2, .int t), (3, .int g)] := hl
  have hP : va_P G vwCl [(am, .inr (12, [.ref aS, .ref aBf, .ref aAs, .ref aSv, .int iS, .ref aPa, .int (nI K), .int th, .ref aOu, .int (nI OM), .ref aTx, .int (nI LN), .int (nI PO), .int iw, .int ea, .int fa, .ref aCo, .int (nI CM)])), (aS, .inl (cy 2, 89, .inl (encT (nB σ) (vB σ) (hB σ) (pB σ) (mB σ) (nD σ) (bD σ) (lD σ) (uD σ) (qD σ) (wD σ) (nE σ) (kE σ) (bE σ) (lE σ) (tT σ) (dT σ) (aT σ) (rT σ) (hT σ) (xT σ))))] s.heap := hP
  have hD0 := hD
  have hD : va_D (wA [(am, .inr (12, [.ref aS, .ref aBf, .ref aAs, .ref aSv, .int iS, .ref aPa, .int (nI K), .int th, .ref aOu, .int (nI OM), .ref aTx, .int (nI LN), .int (nI PO), .int iw, .int ea, .int fa, .ref aCo, .int (nI CM)])), (aS, .inl (cy 2, 89, .inl (encS σ)))]) [(am, .inr (12, [.ref aS, .ref aBf, .ref aAs, .ref aSv, .int iS, .ref aPa, .int (nI K), .int th, .ref aOu, .int (nI OM), .ref aTx, .int (nI LN), .int (nI PO), .int iw, .int ea, .int fa, .ref aCo, .int (nI CM)])), (aS, .inl (cy 2, 89, .inl (encT (nB σ) (vB σ) (hB σ) (pB σ) (mB σ) (nD σ) (bD σ) (lD σ) (uD σ) (qD σ) (wD σ) (nE σ) (kE σ) (bE σ) (lE σ) (tT σ) (dT σ) (aT σ) (rT σ) (hT σ) (xT σ))))] := hD
  have hN0 := ho.1
  have hM0 := ho.2.1
  have hE0 := ho.2.2.1
  refine lv_aload_n hx hb dX8_litresToReachByFormula_0 rfl (lv_at hl 0 rfl) ?_
  refine lv_iload_n hx hb dX8_litresToReachByFormula_1 rfl (lv_at hl 1 rfl) ?_
  refine lv_iload_n hx hb dX8_litresToReachByFormula_2 rfl (lv_at hl 2 rfl) ?_
  refine lv_iload_n hx hb dX8_litresToReachByFormula_3 rfl (lv_at hl 3 rfl) ?_
  refine c_wcVi (ws' := [(am, .inr (12, [.ref aS, .ref aBf, .ref aAs, .ref aSv, .int iS, .ref aPa, .int (nI K), .int 2, .ref aOu, .int (nI OM), .ref aTx, .int (nI LN), .int (nI PO), .int iw, .int ea, .int fa, .ref aCo, .int (nI CM)])), (aS, .inl (cy 2, 89, .inl (encT (nB σ) (vB σ) (hB σ) (pB σ) (mB σ) (nD σ) (bD σ) (lD σ) (uD σ) (qD σ) (wD σ) (nE σ) (kE σ) (bE σ) (lE σ) (tT σ) (dT σ) (aT σ) (rT σ) (hT σ) (xT σ))))]) S9 (c_X8_litresToReach_no2 l G cy am aS aBf aAs aSv aPa aOu aTx aCo K OM LN PO CM iS th iw ea fa σ j t g ho hj ht9) (cwV 3 hts gX8_litresToReachByFormula_X8_litresToReach rfl rfl rfl (by decide +kernel) ⟨Nat.le_of_ble_eq_true rfl, Nat.le_of_ble_eq_true rfl⟩) PB.blind (va_recv hK.1 hP (ci := 12) (q0 := 0) rfl rfl) (PB.at hK (m_Ppart hP [0, 1] rfl)) hP hD hS [0, 1] rfl rfl m_f2 rfl rfl hl.1 rfl (Nat.le_of_ble_eq_true rfl) ⟨Nat.zero_le _, Nat.zero_le _⟩ dX8_litresToReachByFormula_4 (fun H locs hP hD hS => ?_)
  exact wc_iret hx hb hr hlocks hP hS rfl dX8_litresToReachByFormula_7

set_option maxRecDepth 100000 in
set_option maxHeartbeats 1000000 in
theorem c_X8_litresToReachByFormula_no3 (l : Launch) (G : va_G) (cy : Nat → ClassId) (am aS aBf aAs aSv aPa aOu aTx aCo K OM LN PO CM : Nat) (iS th iw ea fa : Int32) (σ : St) (j : Nat) (t g : Int32) (ho : Ok σ) (hj : j < nB σ) (ht9 : inR t 0 2 = true) (hg9 : ¬ inR g 0 99 = true) : WC l yX8_litresToReachByFormula wsX8_litresToReachByFormula { frames := 3, cells := 0, slots := 0, locals := 68 } G (PB G cy [(am, .inr (12, [.ref aS, .ref aBf, .ref aAs, .ref aSv, .int iS, .ref aPa, .int (nI K), .int th, .ref aOu, .int (nI OM), .ref aTx, .int (nI LN), .int (nI PO), .int iw, .int ea, .int fa, .ref aCo, .int (nI CM)])), (aS, .inl (cy 2, 89, .inl (encS σ)))]) [.ref am, .int (nI j), .int t, .int g] [(am, .inr (12, [.ref aS, .ref aBf, .ref aAs, .ref aSv, .int iS, .ref aPa, .int (nI K), .int th, .ref aOu, .int (nI OM), .ref aTx, .int (nI LN), .int (nI PO), .int iw, .int ea, .int fa, .ref aCo, .int (nI CM)])), (aS, .inl (cy 2, 89, .inl (encS σ)))] [(am, .inr (12, [.ref aS, .ref aBf, .ref aAs, .ref aSv, .int iS, .ref aPa, .int (nI K), .int 2, .ref aOu, .int (nI OM), .ref aTx, .int (nI LN), .int (nI PO), .int iw, .int ea, .int fa, .ref aCo, .int (nI CM)])), (aS, .inl (cy 2, 89, .inl (encS σ)))] (some (.int 0)) := by
  refine WC.ofW (cc := cX8_litresToReachByFormula) (maxL := 4) (ret := (some .int)) (by decide) rfl (Nat.le_of_ble_eq_true rfl) ?_
  intro p e s m below meth c S9 hr hlocks hPB hD hS ls hl
  obtain ⟨hx, hb, hml, hown, hts⟩ := id S9
  obtain ⟨hP, hK⟩ := hPB
  have hl : lv_has ls 4 [(0, .ref am), (1, .int (nI j)), (2, .int t), (3, .int g)] := hl
  have hP : va_P G vwCl [(am, .inr (12, [.ref aS, .ref aBf, .ref aAs, .ref aSv, .int iS, .ref aPa, .int (nI K), .int th, .ref aOu, .int (nI OM), .ref aTx, .int (nI LN), .int (nI PO), .int iw, .int ea, .int fa, .ref aCo, .int (nI CM)])), (aS, .inl (cy 2, 89, .inl (encT (nB σ) (vB σ) (hB σ) (pB σ) (mB σ) (nD σ) (bD σ) (lD σ) (uD σ) (qD σ) (wD σ) (nE σ) (kE σ) (bE σ) (lE σ) (tT σ) (dT σ) (aT σ) (rT σ) (hT σ) (xT σ))))] s.heap := hP
  have hD0 := hD
  have hD : va_D (wA [(am, .inr (12, [.ref aS, .ref aBf, .ref aAs, .ref aSv, .int iS, .ref aPa, .int (nI K), .int th, .ref aOu, .int (nI OM), .ref aTx, .int (nI LN), .int (nI PO), .int iw, .int ea, .int fa, .ref aCo, .int (nI CM)])), (aS, .inl (cy 2, 89, .inl (encS σ)))]) [(am, .inr (12, [.ref aS, .ref aBf, .ref aAs, .ref aSv, .int iS, .ref aPa, .int (nI K), .int th, .ref aOu, .int (nI OM), .ref aTx, .int (nI LN), .int (nI PO), .int iw, .int ea, .int fa, .ref aCo, .int (nI CM)])), (aS, .inl (cy 2, 89, .inl (encT (nB σ) (vB σ) (hB σ) (pB σ) (mB σ) (nD σ) (bD σ) (lD σ) (uD σ) (qD σ) (wD σ) (nE σ) (kE σ) (bE σ) (lE σ) (tT σ) (dT σ) (aT σ) (rT σ) (hT σ) (xT σ))))] := hD
  have hN0 := ho.1
  have hM0 := ho.2.1
  have hE0 := ho.2.2.1
  refine lv_aload_n hx hb dX8_litresToReachByFormula_0 rfl (lv_at hl 0 rfl) ?_
  refine lv_iload_n hx hb dX8_litresToReachByFormula_1 rfl (lv_at hl 1 rfl) ?_
  refine lv_iload_n hx hb dX8_litresToReachByFormula_2 rfl (lv_at hl 2 rfl) ?_
  refine lv_iload_n hx hb dX8_litresToReachByFormula_3 rfl (lv_at hl 3 rfl) ?_
  refine c_wcVi (ws' := [(am, .inr (12, [.ref aS, .ref aBf, .ref aAs, .ref aSv, .int iS, .ref aPa, .int (nI K), .int 2, .ref aOu, .int (nI OM), .ref aTx, .int (nI LN), .int (nI PO), .int iw, .int ea, .int fa, .ref aCo, .int (nI CM)])), (aS, .inl (cy 2, 89, .inl (encT (nB σ) (vB σ) (hB σ) (pB σ) (mB σ) (nD σ) (bD σ) (lD σ) (uD σ) (qD σ) (wD σ) (nE σ) (kE σ) (bE σ) (lE σ) (tT σ) (dT σ) (aT σ) (rT σ) (hT σ) (xT σ))))]) S9 (c_X8_litresToReach_no3 l G cy am aS aBf aAs aSv aPa aOu aTx aCo K OM LN PO CM iS th iw ea fa σ j t g ho hj ht9 hg9) (cwV 3 hts gX8_litresToReachByFormula_X8_litresToReach rfl rfl rfl (by decide +kernel) ⟨Nat.le_of_ble_eq_true rfl, Nat.le_of_ble_eq_true rfl⟩) PB.blind (va_recv hK.1 hP (ci := 12) (q0 := 0) rfl rfl) (PB.at hK (m_Ppart hP [0, 1] rfl)) hP hD hS [0, 1] rfl rfl m_f2 rfl rfl hl.1 rfl (Nat.le_of_ble_eq_true rfl) ⟨Nat.zero_le _, Nat.zero_le _⟩ dX8_litresToReachByFormula_4 (fun H locs hP hD hS => ?_)
  exact wc_iret hx hb hr hlocks hP hS rfl dX8_litresToReachByFormula_7

set_option maxRecDepth 100000 in
set_option maxHeartbeats 1000000 in
theorem c_X8_litresToReachByFormula_no5 (l : Launch) (G : va_G) (cy : Nat → ClassId) (am aS aBf aAs aSv aPa aOu aTx aCo K OM LN PO CM : Nat) (iS th iw ea fa : Int32) (σ : St) (j : Nat) (t g : Int32) (ho : Ok σ) (hj : j < nB σ) (ht9 : inR t 0 2 = true) (hg9 : inR g 0 99 = true) (hwt : ¬ wet (vB σ) j = true) : WC l yX8_litresToReachByFormula wsX8_litresToReachByFormula { frames := 3, cells := 0, slots := 0, locals := 68 } G (PB G cy [(am, .inr (12, [.ref aS, .ref aBf, .ref aAs, .ref aSv, .int iS, .ref aPa, .int (nI K), .int th, .ref aOu, .int (nI OM), .ref aTx, .int (nI LN), .int (nI PO), .int iw, .int ea, .int fa, .ref aCo, .int (nI CM)])), (aS, .inl (cy 2, 89, .inl (encS σ)))]) [.ref am, .int (nI j), .int t, .int g] [(am, .inr (12, [.ref aS, .ref aBf, .ref aAs, .ref aSv, .int iS, .ref aPa, .int (nI K), .int th, .ref aOu, .int (nI OM), .ref aTx, .int (nI LN), .int (nI PO), .int iw, .int ea, .int fa, .ref aCo, .int (nI CM)])), (aS, .inl (cy 2, 89, .inl (encS σ)))] [(am, .inr (12, [.ref aS, .ref aBf, .ref aAs, .ref aSv, .int iS, .ref aPa, .int (nI K), .int 3, .ref aOu, .int (nI OM), .ref aTx, .int (nI LN), .int (nI PO), .int iw, .int ea, .int fa, .ref aCo, .int (nI CM)])), (aS, .inl (cy 2, 89, .inl (encS σ)))] (some (.int 0)) := by
  refine WC.ofW (cc := cX8_litresToReachByFormula) (maxL := 4) (ret := (some .int)) (by decide) rfl (Nat.le_of_ble_eq_true rfl) ?_
  intro p e s m below meth c S9 hr hlocks hPB hD hS ls hl
  obtain ⟨hx, hb, hml, hown, hts⟩ := id S9
  obtain ⟨hP, hK⟩ := hPB
  have hl : lv_has ls 4 [(0, .ref am), (1, .int (nI j)), (2, .int t), (3, .int g)] := hl
  have hP : va_P G vwCl [(am, .inr (12, [.ref aS, .ref aBf, .ref aAs, .ref aSv, .int iS, .ref aPa, .int (nI K), .int th, .ref aOu, .int (nI OM), .ref aTx, .int (nI LN), .int (nI PO), .int iw, .int ea, .int fa, .ref aCo, .int (nI CM)])), (aS, .inl (cy 2, 89, .inl (encT (nB σ) (vB σ) (hB σ) (pB σ) (mB σ) (nD σ) (bD σ) (lD σ) (uD σ) (qD σ) (wD σ) (nE σ) (kE σ) (bE σ) (lE σ) (tT σ) (dT σ) (aT σ) (rT σ) (hT σ) (xT σ))))] s.heap := hP
  have hD0 := hD
  have hD : va_D (wA [(am, .inr (12, [.ref aS, .ref aBf, .ref aAs, .ref aSv, .int iS, .ref aPa, .int (nI K), .int th, .ref aOu, .int (nI OM), .ref aTx, .int (nI LN), .int (nI PO), .int iw, .int ea, .int fa, .ref aCo, .int (nI CM)])), (aS, .inl (cy 2, 89, .inl (encS σ)))]) [(am, .inr (12, [.ref aS, .ref aBf, .ref aAs, .ref aSv, .int iS, .ref aPa, .int (nI K), .int th, .ref aOu, .int (nI OM), .ref aTx, .int (nI LN), .int (nI PO), .int iw, .int ea, .int fa, .ref aCo, .int (nI CM)])), (aS, .inl (cy 2, 89, .inl (encT (nB σ) (vB σ) (hB σ) (pB σ) (mB σ) (nD σ) (bD σ) (lD σ) (uD σ) (qD σ) (wD σ) (nE σ) (kE σ) (bE σ) (lE σ) (tT σ) (dT σ) (aT σ) (rT σ) (hT σ) (xT σ))))] := hD
  have hN0 := ho.1
  have hM0 := ho.2.1
  have hE0 := ho.2.2.1
  refine lv_aload_n hx hb dX8_litresToReachByFormula_0 rfl (lv_at hl 0 rfl) ?_
  refine lv_iload_n hx hb dX8_litresToReachByFormula_1 rfl (lv_at hl 1 rfl) ?_
  refine lv_iload_n hx hb dX8_litresToReachByFormula_2 rfl (lv_at hl 2 rfl) ?_
  refine lv_iload_n hx hb dX8_litresToReachByFormula_3 rfl (lv_at hl 3 rfl) ?_
  refine c_wcVi (ws' := [(am, .inr (12, [.ref aS, .ref aBf, .ref aAs, .ref aSv, .int iS, .ref aPa, .int (nI K), .int 3, .ref aOu, .int (nI OM), .ref aTx, .int (nI LN), .int (nI PO), .int iw, .int ea, .int fa, .ref aCo, .int (nI CM)])), (aS, .inl (cy 2, 89, .inl (encT (nB σ) (vB σ) (hB σ) (pB σ) (mB σ) (nD σ) (bD σ) (lD σ) (uD σ) (qD σ) (wD σ) (nE σ) (kE σ) (bE σ) (lE σ) (tT σ) (dT σ) (aT σ) (rT σ) (hT σ) (xT σ))))]) S9 (c_X8_litresToReach_no5 l G cy am aS aBf aAs aSv aPa aOu aTx aCo K OM LN PO CM iS th iw ea fa σ j t g ho hj ht9 hg9 hwt) (cwV 3 hts gX8_litresToReachByFormula_X8_litresToReach rfl rfl rfl (by decide +kernel) ⟨Nat.le_of_ble_eq_true rfl, Nat.le_of_ble_eq_true rfl⟩) PB.blind (va_recv hK.1 hP (ci := 12) (q0 := 0) rfl rfl) (PB.at hK (m_Ppart hP [0, 1] rfl)) hP hD hS [0, 1] rfl rfl m_f2 rfl rfl hl.1 rfl (Nat.le_of_ble_eq_true rfl) ⟨Nat.zero_le _, Nat.zero_le _⟩ dX8_litresToReachByFormula_4 (fun H locs hP hD hS => ?_)
  exact wc_iret hx hb hr hlocks hP hS rfl dX8_litresToReachByFormula_7
