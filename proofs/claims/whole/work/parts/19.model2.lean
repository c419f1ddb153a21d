set_option maxRecDepth 100000 in
set_option maxHeartbeats 1000000 in
theorem c_X8_sets_oN (l : Launch) (G : va_G) (cy : Nat → ClassId) (am aS aBf aAs aSv aPa aOu aTx aCo K OM LN PO CM : Nat) (iS th iw ea fa : Int32) (N : Nat) (v h pl me : Nat → Int32) (M : Nat) (db dl du dq dw : Nat → Int32) (E : Nat) (ek eb el : Nat → Int32) (t1 t2 t3 t4 t5 t6 : Int32) (b : Nat) (hb9 : b < 5) (hbN : ¬ b < N) : WC l yX8_sets wsX8_sets { frames := 0, cells := 0, slots := 0, locals := 0 } G (PB G cy [(am, .inr (12, [.ref aS, .ref aBf, .ref aAs, .ref aSv, .int iS, .ref aPa, .int (nI K), .int th, .ref aOu, .int (nI OM), .ref aTx, .int (nI LN), .int (nI PO), .int iw, .int ea, .int fa, .ref aCo, .int (nI CM)])), (aS, .inl (cy 2, 89, .inl (encT N v h pl me M db dl du dq dw E ek eb el t1 t2 t3 t4 t5 t6)))]) [.ref am, .int (nI b), .int 2, .int 0] [(am, .inr (12, [.ref aS, .ref aBf, .ref aAs, .ref aSv, .int iS, .ref aPa, .int (nI K), .int th, .ref aOu, .int (nI OM), .ref aTx, .int (nI LN), .int (nI PO), .int iw, .int ea, .int fa, .ref aCo, .int (nI CM)])), (aS, .inl (cy 2, 89, .inl (encT N v h pl me M db dl du dq dw E ek eb el t1 t2 t3 t4 t5 t6)))] [(am, .inr (12, [.ref aS, .ref aBf, .ref aAs, .ref aSv, .int iS, .ref aPa, .int (nI K), .int th, .ref aOu, .int (nI OM), .ref aTx, .int (nI LN), .int (nI PO), .int iw, .int ea, .int fa, .ref aCo, .int (nI CM)])), (aS, .inl (cy 2, 89, .inl (encT N v h pl me M db dl du dq dw E ek eb el t1 t2 t3 t4 t5 t6)))] (none) := by
  refine WC.ofW (cc := cX8_sets) (maxL := 4) (ret := none) (by decide) rfl (Nat.le_of_ble_eq_true rfl) ?_
  intro p e s m below meth c S9 hr hlocks hPB hD hS ls hl
  obtain ⟨hx, hb, hml, hown, hts⟩ := id S9
  obtain ⟨hP, hK⟩ := hPB
  have hl : lv_has ls 4 [(0, .ref am), (1, .int (nI b)), (2, .int 2), (3, .int 0)] := hl
  have hi12 : ∀ w ∈ wsX80, w ∈ wsX8_sets := by decide +kernel
  have hf9 := hts (.fieldLink RX8 9 "BathLeagueModel" "s" "[I") (by decide +kernel)
  refine lv_aload_n hx hb dX8_sets_0 rfl (lv_at hl 0 rfl) ?_
  refine va_get (D := G) (ci := 12) (v := .ref aS) (C := RX8) (T := TX8) (N := 18) hx hb hts hi12 hown hK.1 hP 0 rfl rfl 0 (by decide) hf9 (fun _ h9 => h9) rfl dX8_sets_1 ?_
  refine lv_bipush (v := 9) hx hb dX8_sets_4 (by decide) ?_
  refine lv_iconst (v := 4) hx hb dX8_sets_6 (by decide) ?_
  refine lv_iload_n hx hb dX8_sets_7 rfl (lv_at hl 1 rfl) ?_
  refine lv_imul hx hb dX8_sets_8 ?_
  refine lv_iadd hx hb dX8_sets_9 ?_
  refine lv_iload_n hx hb dX8_sets_10 rfl (lv_at hl 2 rfl) ?_
  refine lv_iadd hx hb dX8_sets_11 ?_
  refine lv_iload_n hx hb dX8_sets_12 rfl (lv_at hl 3 rfl) ?_
  refine m_iast hx hb hK hP hD hS 1 (k := (9 + (4 * b)) + 2) rfl (m_add (m_add rfl (m_mul rfl rfl)) rfl) (by omega) (Nat.le_of_ble_eq_true rfl) dX8_sets_13 (fun H locs hP hD hS => ?_)
  rw [encU_oN (j := ((9 + (4 * b)) + 2)) (b := b) (by omega) (by omega) (by omega)] at hP hD
  have hP : va_P G vwCl [(am, .inr (12, [.ref aS, .ref aBf, .ref aAs, .ref aSv, .int iS, .ref aPa, .int (nI K), .int th, .ref aOu, .int (nI OM), .ref aTx, .int (nI LN), .int (nI PO), .int iw, .int ea, .int fa, .ref aCo, .int (nI CM)])), (aS, .inl (cy 2, 89, .inl (encT N v h pl me M db dl du dq dw E ek eb el t1 t2 t3 t4 t5 t6)))] H := hP
  have hD : va_D (wA [(am, .inr (12, [.ref aS, .ref aBf, .ref aAs, .ref aSv, .int iS, .ref aPa, .int (nI K), .int th, .ref aOu, .int (nI OM), .ref aTx, .int (nI LN), .int (nI PO), .int iw, .int ea, .int fa, .ref aCo, .int (nI CM)])), (aS, .inl (cy 2, 89, .inl (encT N v h pl me M db dl du dq dw E ek eb el t1 t2 t3 t4 t5 t6)))]) [(am, .inr (12, [.ref aS, .ref aBf, .ref aAs, .ref aSv, .int iS, .ref aPa, .int (nI K), .int th, .ref aOu, .int (nI OM), .ref aTx, .int (nI LN), .int (nI PO), .int iw, .int ea, .int fa, .ref aCo, .int (nI CM)])), (aS, .inl (cy 2, 89, .inl (encT N v h pl me M db dl du dq dw E ek eb el t1 t2 t3 t4 t5 t6)))] := hD
  exact wc_vret hx hb hr hlocks hP hS dX8_sets_14

set_option maxRecDepth 100000 in
set_option maxHeartbeats 1000000 in
theorem c_X8_doRunTap_ok (l : Launch) (G : va_G) (cy : Nat → ClassId) (am aS aBf aAs aSv aPa aOu aTx aCo K OM LN PO CM : Nat) (iS th iw ea fa : Int32) (N : Nat) (v h pl me : Nat → Int32) (M : Nat) (db dl du dq dw : Nat → Int32) (E : Nat) (ek eb el : Nat → Int32) (t1 t2 t3 t4 t5 t6 b t q : Int32) (hN : N ≤ 5) (hM : M ≤ 6) (hE : E ≤ 10) (hdd : ∀ j, j < M → dOK (db j)) (hw : ∀ j, j < 6 → dw j = 0 ∨ dw j = 1) (hq9 : ¬ q = -1) (hF : filF N v b t q = 0) : WC l yX8_doRunTap wsX8_doRunTap { frames := 4, cells := 0, slots := 0, locals := 88 } G (PB G cy [(am, .inr (12, [.ref aS, .ref aBf, .ref aAs, .ref aSv, .int iS, .ref aPa, .int (nI K), .int th, .ref aOu, .int (nI OM), .ref aTx, .int (nI LN), .int (nI PO), .int iw, .int ea, .int fa, .ref aCo, .int (nI CM)])), (aS, .inl (cy 2, 89, .inl (encT N v h pl me M db dl du dq dw E ek eb el t1 t2 t3 t4 t5 t6)))]) [.ref am, .int b, .int t, .int q] [(am, .inr (12, [.ref aS, .ref aBf, .ref aAs, .ref aSv, .int iS, .ref aPa, .int (nI K), .int th, .ref aOu, .int (nI OM), .ref aTx, .int (nI LN), .int (nI PO), .int iw, .int ea, .int fa, .ref aCo, .int (nI CM)])), (aS, .inl (cy 2, 89, .inl (encT N v h pl me M db dl du dq dw E ek eb el t1 t2 t3 t4 t5 t6)))] [(am, .inr (12, [.ref aS, .ref aBf, .ref aAs, .ref aSv, .int iS, .ref aPa, .int (nI K), .int th, .ref aOu, .int (nI OM), .ref aTx, .int (nI LN), .int (nI PO), .int iw, .int ea, .int fa, .ref aCo, .int (nI CM)])), (aS, .inl (cy 2, 89, .inl (encT N (upd v (bx b) (v (bx b) + q)) (upd h (bx b) (h (bx b) + q * (10 + 30 * t))) pl me M db dl du (obsQ (plz (upd v (bx b) (v (bx b) + q)) (upd h (bx b) (h (bx b) + q * (10 + 30 * t))) db dl du) dq dw M) (obsW (plz (upd v (bx b) (v (bx b) + q)) (upd h (bx b) (h (bx b) + q * (10 + 30 * t))) db dl du) dw M) (evc E) (psh ek 116) (psh eb b) (psh el q) t1 t2 (t3 + q) t4 (t5 + q * (10 + 30 * t)) t6)))] (some (.int (v (bx b) + q))) := by
  refine WC.ofW (cc := cX8_doRunTap) (maxL := 5) (ret := (some .int)) (by decide) rfl (Nat.le_of_ble_eq_true rfl) ?_
  intro p e s m below meth c S9 hr hlocks hPB hD hS ls hl
  obtain ⟨hx, hb, hml, hown, hts⟩ := id S9
  obtain ⟨hP, hK⟩ := hPB
  have hl : lv_has ls 5 [(0, .ref am), (1, .int b), (2, .int t), (3, .int q)] := hl
  have hi12 : ∀ w ∈ wsX80, w ∈ wsX8_doRunTap := by decide +kernel
  have hf9 := hts (.fieldLink RX8 9 "BathLeagueModel" "s" "[I") (by decide +kernel)
  refine lv_aload_n hx hb dX8_doRunTap_0 rfl (lv_at hl 0 rfl) ?_
  refine lv_iload_n hx hb dX8_doRunTap_1 rfl (lv_at hl 1 rfl) ?_
  refine c_roVi S9 (c_X8_isBath l G cy am aS aBf aAs aSv aPa aOu aTx aCo K OM LN PO CM iS th iw ea fa N v h pl me M db dl du dq dw E ek eb el t1 t2 t3 t4 t5 t6 b (by omega)) (cwV 1 hts gX8_doRunTap_X8_isBath rfl rfl rfl (by decide +kernel) ⟨Nat.le_of_ble_eq_true rfl, Nat.le_of_ble_eq_true rfl⟩) PB.blind (va_recv hK.1 hP (ci := 12) (q0 := 0) rfl rfl) (PB.at hK (m_Ppart hP [0, 1] rfl)) rfl hl.1 rfl (Nat.le_of_ble_eq_true rfl) ⟨Nat.zero_le _, Nat.zero_le _⟩ dX8_doRunTap_2 ?_
  refine lv_if_ne (tgt := 14) hx hb dX8_doRunTap_5 (by decide) (fun c_1 => ?_) (fun c_1 => ?_)
  · have b_2 : inI b (nI N) = true := m_ite1.mp c_1
    have q_3 := m_ixp (by omega) b_2
    have q_3' := q_3.2
    refine lv_iload_n hx hb dX8_doRunTap_14 rfl (lv_at hl 2 rfl) ?_
    refine lv_iconst (v := 0) hx hb dX8_doRunTap_15 (by decide) ?_
    refine lv_iconst (v := 2) hx hb dX8_doRunTap_16 (by decide) ?_
    refine c_roSi S9 (c_X8_in l G cy t 0 2) (va_cwS 3 hts gX8_doRunTap_X8_in rfl rfl rfl (by decide +kernel) ⟨Nat.le_of_ble_eq_true rfl, Nat.le_of_ble_eq_true rfl⟩) PB.blind (PB.at hK (m_Ppart hP [] rfl)) rfl hl.1 rfl (Nat.le_of_ble_eq_true rfl) ⟨Nat.zero_le _, Nat.zero_le _⟩ dX8_doRunTap_17 ?_
    refine lv_if_eq (tgt := 33) hx hb dX8_doRunTap_20 (by decide) (fun c_4 => ?_) (fun c_4 => ?_)
    · have b_5 : ¬ (inR t 0 2 = true) := m_ite0.mp c_4
      exact absurd hF (by simp [filF, tapB, b_2, b_5])
    · have b_6 : inR t 0 2 = true := m_ite1.mp c_4
      refine lv_iload_n hx hb dX8_doRunTap_23 rfl (lv_at hl 3 rfl) ?_
      refine lv_iconst (v := 1) hx hb dX8_doRunTap_24 (by decide) ?_
      refine lv_bipush (v := 20) hx hb dX8_doRunTap_25 (by decide) ?_
      refine c_roSi S9 (c_X8_in l G cy q 1 20) (va_cwS 3 hts gX8_doRunTap_X8_in rfl rfl rfl (by decide +kernel) ⟨Nat.le_of_ble_eq_true rfl, Nat.le_of_ble_eq_true rfl⟩) PB.blind (PB.at hK (m_Ppart hP [] rfl)) rfl hl.1 rfl (Nat.le_of_ble_eq_true rfl) ⟨Nat.zero_le _, Nat.zero_le _⟩ dX8_doRunTap_27 ?_
      refine lv_if_ne (tgt := 39) hx hb dX8_doRunTap_30 (by decide) (fun c_7 => ?_) (fun c_7 => ?_)
      · have b_8 : inR q 1 20 = true := m_ite1.mp c_7
        refine lv_aload_n hx hb dX8_doRunTap_39 rfl (lv_at hl 0 rfl) ?_
        refine lv_iload_n hx hb dX8_doRunTap_40 rfl (lv_at hl 1 rfl) ?_
        refine lv_iconst (v := 0) hx hb dX8_doRunTap_41 (by decide) ?_
        refine lv_t1 (show b = nI (bx b) from q_3.1) ?_
        refine c_roVi S9 (c_X8_of_v l G cy am aS aBf aAs aSv aPa aOu aTx aCo K OM LN PO CM iS th iw ea fa N v h pl me M db dl du dq dw E ek eb el t1 t2 t3 t4 t5 t6 (bx b) (by omega)) (cwV 2 hts gX8_doRunTap_X8_of rfl rfl rfl (by decide +kernel) ⟨Nat.le_of_ble_eq_true rfl, Nat.le_of_ble_eq_true rfl⟩) PB.blind (va_recv hK.1 hP (ci := 12) (q0 := 0) rfl rfl) (PB.at hK (m_Ppart hP [0, 1] rfl)) rfl hl.1 rfl (Nat.le_of_ble_eq_true rfl) ⟨Nat.zero_le _, Nat.zero_le _⟩ dX8_doRunTap_42 ?_
        refine lv_iload_n hx hb dX8_doRunTap_45 rfl (lv_at hl 3 rfl) ?_
        refine lv_iadd hx hb dX8_doRunTap_46 ?_
        refine lv_bipush (v := 100) hx hb dX8_doRunTap_47 (by decide) ?_
        refine lv_icmp_le (tgt := 58) hx hb dX8_doRunTap_49 (by decide) (fun c_9 => ?_) (fun c_9 => ?_)
        · have c_9' : ¬ 100 < ((v (bx b)) + q) := Int32.not_lt.mpr c_9
          refine lv_iload_n hx hb dX8_doRunTap_58 rfl (lv_at hl 3 rfl) ?_
          refine lv_iload_n hx hb dX8_doRunTap_59 rfl (lv_at hl 2 rfl) ?_
          refine c_roSi S9 (c_X8_tapDegrees l G cy t) (va_cwS 1 hts gX8_doRunTap_X8_tapDegrees rfl rfl rfl (by decide +kernel) ⟨Nat.le_of_ble_eq_true rfl, Nat.le_of_ble_eq_true rfl⟩) PB.blind (PB.at hK (m_Ppart hP [] rfl)) rfl hl.1 rfl (Nat.le_of_ble_eq_true rfl) ⟨Nat.zero_le _, Nat.zero_le _⟩ dX8_doRunTap_60 ?_
          refine lv_imul hx hb dX8_doRunTap_63 ?_
          refine lv_istore (lv' := [(4, .int (q * (10 + 30 * t))), (0, .ref am), (1, .int b), (2, .int t), (3, .int q)]) hx hb dX8_doRunTap_64 hl (by decide) rfl (fun ls hl => ?_)
          refine lv_aload_n hx hb dX8_doRunTap_66 rfl (lv_at hl 1 rfl) ?_
          refine lv_iload_n hx hb dX8_doRunTap_67 rfl (lv_at hl 2 rfl) ?_
          refine lv_iconst (v := 0) hx hb dX8_doRunTap_68 (by decide) ?_
          refine lv_aload_n hx hb dX8_doRunTap_69 rfl (lv_at hl 1 rfl) ?_
          refine lv_iload_n hx hb dX8_doRunTap_70 rfl (lv_at hl 2 rfl) ?_
          refine lv_iconst (v := 0) hx hb dX8_doRunTap_71 (by decide) ?_
          refine lv_t1 (show b = nI (bx b) from q_3.1) ?_
          refine c_roVi S9 (c_X8_of_v l G cy am aS aBf aAs aSv aPa aOu aTx aCo K OM LN PO CM iS th iw ea fa N v h pl me M db dl du dq dw E ek eb el t1 t2 t3 t4 t5 t6 (bx b) (by omega)) (cwV 2 hts gX8_doRunTap_X8_of rfl rfl rfl (by decide +kernel) ⟨Nat.le_of_ble_eq_true rfl, Nat.le_of_ble_eq_true rfl⟩) PB.blind (va_recv hK.1 hP (ci := 12) (q0 := 0) rfl rfl) (PB.at hK (m_Ppart hP [0, 1] rfl)) rfl hl.1 rfl (Nat.le_of_ble_eq_true rfl) ⟨Nat.zero_le _, Nat.zero_le _⟩ dX8_doRunTap_72 ?_
          refine lv_iload_n hx hb dX8_doRunTap_75 rfl (lv_at hl 4 rfl) ?_
          refine lv_iadd hx hb dX8_doRunTap_76 ?_
          refine lv_t2 (show b = nI (bx b) from q_3.1) ?_
          refine c_wcVv (ws' := [(am, .inr (12, [.ref aS, .ref aBf, .ref aAs, .ref aSv, .int iS, .ref aPa, .int (nI K), .int th, .ref aOu, .int (nI OM), .ref aTx, .int (nI LN), .int (nI PO), .int iw, .int ea, .int fa, .ref aCo, .int (nI CM)])), (aS, .inl (cy 2, 89, .inl (encT N (upd v (bx b) ((v (bx b)) + q)) h pl me M db dl du dq dw E ek eb el t1 t2 t3 t4 t5 t6)))]) S9 (c_X8_sets_v l G cy am aS aBf aAs aSv aPa aOu aTx aCo K OM LN PO CM iS th iw ea fa N v h pl me M db dl du dq dw E ek eb el t1 t2 t3 t4 t5 t6 (bx b) ((v (bx b)) + q) (by omega)) (cwV 3 hts gX8_doRunTap_X8_sets rfl rfl rfl (by decide +kernel) ⟨Nat.le_of_ble_eq_true rfl, Nat.le_of_ble_eq_true rfl⟩) PB.blind (va_recv hK.1 hP (ci := 12) (q0 := 0) rfl rfl) (PB.at hK (m_Ppart hP [0, 1] rfl)) hP hD hS [0, 1] rfl rfl m_f2 rfl rfl hl.1 rfl (Nat.le_of_ble_eq_true rfl) ⟨Nat.zero_le _, Nat.zero_le _⟩ dX8_doRunTap_77 (fun H locs hP hD hS => ?_)
          refine lv_aload_n hx hb dX8_doRunTap_80 rfl (lv_at hl 1 rfl) ?_
          refine lv_iload_n hx hb dX8_doRunTap_81 rfl (lv_at hl 2 rfl) ?_
          refine lv_iconst (v := 1) hx hb dX8_doRunTap_82 (by decide) ?_
          refine lv_aload_n hx hb dX8_doRunTap_83 rfl (lv_at hl 1 rfl) ?_
          refine lv_iload_n hx hb dX8_doRunTap_84 rfl (lv_at hl 2 rfl) ?_
          refine lv_iconst (v := 1) hx hb dX8_doRunTap_85 (by decide) ?_
          refine lv_t1 (show b = nI (bx b) from q_3.1) ?_
          refine c_roVi S9 (c_X8_of_h l G cy am aS aBf aAs aSv aPa aOu aTx aCo K OM LN PO CM iS th iw ea fa N (upd v (bx b) ((v (bx b)) + q)) h pl me M db dl du dq dw E ek eb el t1 t2 t3 t4 t5 t6 (bx b) (by omega)) (cwV 2 hts gX8_doRunTap_X8_of rfl rfl rfl (by decide +kernel) ⟨Nat.le_of_ble_eq_true rfl, Nat.le_of_ble_eq_true rfl⟩) PB.blind (va_recv hK.1 hP (ci := 12) (q0 := 0) rfl rfl) (PB.at hK (m_Ppart hP [0, 1] rfl)) rfl hl.1 rfl (Nat.le_of_ble_eq_true rfl) ⟨Nat.zero_le _, Nat.zero_le _⟩ dX8_doRunTap_86 ?_
          refine lv_iload hx hb dX8_doRunTap_89 (lv_at hl 0 rfl) ?_
          refine lv_iadd hx hb dX8_doRunTap_91 ?_
          refine lv_t2 (show b = nI (bx b) from q_3.1) ?_
          refine c_wcVv (ws' := [(am, .inr (12, [.ref aS, .ref aBf, .ref aAs, .ref aSv, .int iS, .ref aPa, .int (nI K), .int th, .ref aOu, .int (nI OM), .ref aTx, .int (nI LN), .int (nI PO), .int iw, .int ea, .int fa, .ref aCo, .int (nI CM)])), (aS, .inl (cy 2, 89, .inl (encT N (upd v (bx b) ((v (bx b)) + q)) (upd h (bx b) ((h (bx b)) + (q * (10 + 30 * t)))) pl me M db dl du dq dw E ek eb el t1 t2 t3 t4 t5 t6)))]) S9 (c_X8_sets_h l G cy am aS aBf aAs aSv aPa aOu aTx aCo K OM LN PO CM iS th iw ea fa N (upd v (bx b) ((v (bx b)) + q)) h pl me M db dl du dq dw E ek eb el t1 t2 t3 t4 t5 t6 (bx b) ((h (bx b)) + (q * (10 + 30 * t))) (by omega)) (cwV 3 hts gX8_doRunTap_X8_sets rfl rfl rfl (by decide +kernel) ⟨Nat.le_of_ble_eq_true rfl, Nat.le_of_ble_eq_true rfl⟩) PB.blind (va_recv hK.1 hP (ci := 12) (q0 := 0) rfl rfl) (PB.at hK (m_Ppart hP [0, 1] rfl)) hP hD hS [0, 1] rfl rfl m_f2 rfl rfl hl.1 rfl (Nat.le_of_ble_eq_true rfl) ⟨Nat.zero_le _, Nat.zero_le _⟩ dX8_doRunTap_92 (fun H locs hP hD hS => ?_)
          refine lv_aload_n hx hb dX8_doRunTap_95 rfl (lv_at hl 1 rfl) ?_
          refine va_get (D := G) (ci := 12) (v := .ref aS) (C := RX8) (T := TX8) (N := 18) hx hb hts hi12 hown hK.1 hP 0 rfl rfl 0 (by decide) hf9 (fun _ h9 => h9) rfl dX8_doRunTap_96 ?_
          refine lv_iconst (v := 5) hx hb dX8_doRunTap_99 (by decide) ?_
          refine lv_dup2_11 hx hb dX8_doRunTap_100 rfl rfl ?_
          refine m_iald hx hb hK hP 1 (k := 5) rfl rfl (by omega) (Nat.le_of_ble_eq_true rfl) dX8_doRunTap_101 ?_
          refine lv_t0 (encR_5 rfl) ?_
          refine lv_iload_n hx hb dX8_doRunTap_102 rfl (lv_at hl 4 rfl) ?_
          refine lv_iadd hx hb dX8_doRunTap_103 ?_
          refine m_iast hx hb hK hP hD hS 1 (k := 5) rfl rfl (by omega) (Nat.le_of_ble_eq_true rfl) dX8_doRunTap_104 (fun H locs hP hD hS => ?_)
          rw [encU_5 (j := 5) rfl] at hP hD
          have hP : va_P G vwCl [(am, .inr (12, [.ref aS, .ref aBf, .ref aAs, .ref aSv, .int iS, .ref aPa, .int (nI K), .int th, .ref aOu, .int (nI OM), .ref aTx, .int (nI LN), .int (nI PO), .int iw, .int ea, .int fa, .ref aCo, .int (nI CM)])), (aS, .inl (cy 2, 89, .inl (encT N (upd v (bx b) ((v (bx b)) + q)) (upd h (bx b) ((h (bx b)) + (q * (10 + 30 * t)))) pl me M db dl du dq dw E ek eb el t1 t2 (t3 + q) t4 t5 t6)))] H := hP
          have hD : va_D (wA [(am, .inr (12, [.ref aS, .ref aBf, .ref aAs, .ref aSv, .int iS, .ref aPa, .int (nI K), .int th, .ref aOu, .int (nI OM), .ref aTx, .int (nI LN), .int (nI PO), .int iw, .int ea, .int fa, .ref aCo, .int (nI CM)])), (aS, .inl (cy 2, 89, .inl (encT N v h pl me M db dl du dq dw E ek eb el t1 t2 t3 t4 t5 t6)))]) [(am, .inr (12, [.ref aS, .ref aBf, .ref aAs, .ref aSv, .int iS, .ref aPa, .int (nI K), .int th, .ref aOu, .int (nI OM), .ref aTx, .int (nI LN), .int (nI PO), .int iw, .int ea, .int fa, .ref aCo, .int (nI CM)])), (aS, .inl (cy 2, 89, .inl (encT N (upd v (bx b) ((v (bx b)) + q)) (upd h (bx b) ((h (bx b)) + (q * (10 + 30 * t)))) pl me M db dl du dq dw E ek eb el t1 t2 (t3 + q) t4 t5 t6)))] := hD
          refine lv_aload_n hx hb dX8_doRunTap_105 rfl (lv_at hl 1 rfl) ?_
          refine va_get (D := G) (ci := 12) (v := .ref aS) (C := RX8) (T := TX8) (N := 18) hx hb hts hi12 hown hK.1 hP 0 rfl rfl 0 (by decide) hf9 (fun _ h9 => h9) rfl dX8_doRunTap_106 ?_
          refine lv_bipush (v := 7) hx hb dX8_doRunTap_109 (by decide) ?_
          refine lv_dup2_11 hx hb dX8_doRunTap_111 rfl rfl ?_
          refine m_iald hx hb hK hP 1 (k := 7) rfl rfl (by omega) (Nat.le_of_ble_eq_true rfl) dX8_doRunTap_112 ?_
          refine lv_t0 (encR_7 rfl) ?_
          refine lv_iload hx hb dX8_doRunTap_113 (lv_at hl 0 rfl) ?_
          refine lv_iadd hx hb dX8_doRunTap_115 ?_
          refine m_iast hx hb hK hP hD hS 1 (k := 7) rfl rfl (by omega) (Nat.le_of_ble_eq_true rfl) dX8_doRunTap_116 (fun H locs hP hD hS => ?_)
          rw [encU_7 (j := 7) rfl] at hP hD
          have hP : va_P G vwCl [(am, .inr (12, [.ref aS, .ref aBf, .ref aAs, .ref aSv, .int iS, .ref aPa, .int (nI K), .int th, .ref aOu, .int (nI OM), .ref aTx, .int (nI LN), .int (nI PO), .int iw, .int ea, .int fa, .ref aCo, .int (nI CM)])), (aS, .inl (cy 2, 89, .inl (encT N (upd v (bx b) ((v (bx b)) + q)) (upd h (bx b) ((h (bx b)) + (q * (10 + 30 * t)))) pl me M db dl du dq dw E ek eb el t1 t2 (t3 + q) t4 (t5 + (q * (10 + 30 * t))) t6)))] H := hP
          have hD : va_D (wA [(am, .inr (12, [.ref aS, .ref aBf, .ref aAs, .ref aSv, .int iS, .ref aPa, .int (nI K), .int th, .ref aOu, .int (nI OM), .ref aTx, .int (nI LN), .int (nI PO), .int iw, .int ea, .int fa, .ref aCo, .int (nI CM)])), (aS, .inl (cy 2, 89, .inl (encT N v h pl me M db dl du dq dw E ek eb el t1 t2 t3 t4 t5 t6)))]) [(am, .inr (12, [.ref aS, .ref aBf, .ref aAs, .ref aSv, .int iS, .ref aPa, .int (nI K), .int th, .ref aOu, .int (nI OM), .ref aTx, .int (nI LN), .int (nI PO), .int iw, .int ea, .int fa, .ref aCo, .int (nI CM)])), (aS, .inl (cy 2, 89, .inl (encT N (upd v (bx b) ((v (bx b)) + q)) (upd h (bx b) ((h (bx b)) + (q * (10 + 30 * t)))) pl me M db dl du dq dw E ek eb el t1 t2 (t3 + q) t4 (t5 + (q * (10 + 30 * t))) t6)))] := hD
          refine lv_aload_n hx hb dX8_doRunTap_117 rfl (lv_at hl 1 rfl) ?_
          refine lv_bipush (v := 116) hx hb dX8_doRunTap_118 (by decide) ?_
          refine lv_iload_n hx hb dX8_doRunTap_120 rfl (lv_at hl 2 rfl) ?_
          refine lv_iload_n hx hb dX8_doRunTap_121 rfl (lv_at hl 4 rfl) ?_
          refine lv_t0 (show (q : Int32) = litq q from (litq_ne hq9).symm) ?_
          refine c_wcVv (ws' := [(am, .inr (12, [.ref aS, .ref aBf, .ref aAs, .ref aSv, .int iS, .ref aPa, .int (nI K), .int th, .ref aOu, .int (nI OM), .ref aTx, .int (nI LN), .int (nI PO), .int iw, .int ea, .int fa, .ref aCo, .int (nI CM)])), (aS, .inl (cy 2, 89, .inl (encT N (upd v (bx b) ((v (bx b)) + q)) (upd h (bx b) ((h (bx b)) + (q * (10 + 30 * t)))) pl me M db dl du dq dw (evc E) (psh ek 116) (psh eb b) (psh el q) t1 t2 (t3 + q) t4 (t5 + (q * (10 + 30 * t))) t6)))]) S9 (c_X8_happens l G cy am aS aBf aAs aSv aPa aOu aTx aCo K OM LN PO CM iS th iw ea fa N (upd v (bx b) ((v (bx b)) + q)) (upd h (bx b) ((h (bx b)) + (q * (10 + 30 * t)))) pl me M db dl du dq dw E ek eb el t1 t2 (t3 + q) t4 (t5 + (q * (10 + 30 * t))) t6 116 b q hE) (cwV 3 hts gX8_doRunTap_X8_happens rfl rfl rfl (by decide +kernel) ⟨Nat.le_of_ble_eq_true rfl, Nat.le_of_ble_eq_true rfl⟩) PB.blind (va_recv hK.1 hP (ci := 12) (q0 := 0) rfl rfl) (PB.at hK (m_Ppart hP [0, 1] rfl)) hP hD hS [0, 1] rfl rfl m_f2 rfl rfl hl.1 rfl (Nat.le_of_ble_eq_true rfl) ⟨Nat.zero_le _, Nat.zero_le _⟩ dX8_doRunTap_122 (fun H locs hP hD hS => ?_)
          refine lv_aload_n hx hb dX8_doRunTap_125 rfl (lv_at hl 1 rfl) ?_
          refine c_wcVv (ws' := [(am, .inr (12, [.ref aS, .ref aBf, .ref aAs, .ref aSv, .int iS, .ref aPa, .int (nI K), .int th, .ref aOu, .int (nI OM), .ref aTx, .int (nI LN), .int (nI PO), .int iw, .int ea, .int fa, .ref aCo, .int (nI CM)])), (aS, .inl (cy 2, 89, .inl (encT N (upd v (bx b) ((v (bx b)) + q)) (upd h (bx b) ((h (bx b)) + (q * (10 + 30 * t)))) pl me M db dl du (obsQ (plz (upd v (bx b) ((v (bx b)) + q)) (upd h (bx b) ((h (bx b)) + (q * (10 + 30 * t)))) db dl du) dq dw M) (obsW (plz (upd v (bx b) ((v (bx b)) + q)) (upd h (bx b) ((h (bx b)) + (q * (10 + 30 * t)))) db dl du) dw M) (evc E) (psh ek 116) (psh eb b) (psh el q) t1 t2 (t3 + q) t4 (t5 + (q * (10 + 30 * t))) t6)))]) S9 (c_X8_looks l G cy am aS aBf aAs aSv aPa aOu aTx aCo K OM LN PO CM iS th iw ea fa N (upd v (bx b) ((v (bx b)) + q)) (upd h (bx b) ((h (bx b)) + (q * (10 + 30 * t)))) pl me M db dl du dq dw (evc E) (psh ek 116) (psh eb b) (psh el q) t1 t2 (t3 + q) t4 (t5 + (q * (10 + 30 * t))) t6 hM hdd hw) (cwV 0 hts gX8_doRunTap_X8_looks rfl rfl rfl (by decide +kernel) ⟨Nat.le_of_ble_eq_true rfl, Nat.le_of_ble_eq_true rfl⟩) PB.blind (va_recv hK.1 hP (ci := 12) (q0 := 0) rfl rfl) (PB.at hK (m_Ppart hP [0, 1] rfl)) hP hD hS [0, 1] rfl rfl m_f2 rfl rfl hl.1 rfl (Nat.le_of_ble_eq_true rfl) ⟨Nat.zero_le _, Nat.zero_le _⟩ dX8_doRunTap_126 (fun H locs hP hD hS => ?_)
          refine lv_aload_n hx hb dX8_doRunTap_129 rfl (lv_at hl 1 rfl) ?_
          refine lv_iload_n hx hb dX8_doRunTap_130 rfl (lv_at hl 2 rfl) ?_
          refine lv_iconst (v := 0) hx hb dX8_doRunTap_131 (by decide) ?_
          refine lv_t1 (show b = nI (bx b) from q_3.1) ?_
          refine c_roVi S9 (c_X8_of_v l G cy am aS aBf aAs aSv aPa aOu aTx aCo K OM LN PO CM iS th iw ea fa N (upd v (bx b) ((v (bx b)) + q)) (upd h (bx b) ((h (bx b)) + (q * (10 + 30 * t)))) pl me M db dl du (obsQ (plz (upd v (bx b) ((v (bx b)) + q)) (upd h (bx b) ((h (bx b)) + (q * (10 + 30 * t)))) db dl du) dq dw M) (obsW (plz (upd v (bx b) ((v (bx b)) + q)) (upd h (bx b) ((h (bx b)) + (q * (10 + 30 * t)))) db dl du) dw M) (evc E) (psh ek 116) (psh eb b) (psh el q) t1 t2 (t3 + q) t4 (t5 + (q * (10 + 30 * t))) t6 (bx b) (by omega)) (cwV 2 hts gX8_doRunTap_X8_of rfl rfl rfl (by decide +kernel) ⟨Nat.le_of_ble_eq_true rfl, Nat.le_of_ble_eq_true rfl⟩) PB.blind (va_recv hK.1 hP (ci := 12) (q0 := 0) rfl rfl) (PB.at hK (m_Ppart hP [0, 1] rfl)) rfl hl.1 rfl (Nat.le_of_ble_eq_true rfl) ⟨Nat.zero_le _, Nat.zero_le _⟩ dX8_doRunTap_132 ?_
          have e_10 : encT N (upd v (bx b) (v (bx b) + q)) (upd h (bx b) (h (bx b) + q * (10 + 30 * t))) pl me M db dl du (obsQ (plz (upd v (bx b) (v (bx b) + q)) (upd h (bx b) (h (bx b) + q * (10 + 30 * t))) db dl du) dq dw M) (obsW (plz (upd v (bx b) (v (bx b) + q)) (upd h (bx b) (h (bx b) + q * (10 + 30 * t))) db dl du) dw M) (evc E) (psh ek 116) (psh eb b) (psh el q) t1 t2 (t3 + q) t4 (t5 + q * (10 + 30 * t)) t6 = encT N (upd v (bx b) ((v (bx b)) + q)) (upd h (bx b) ((h (bx b)) + (q * (10 + 30 * t)))) pl me M db dl du (obsQ (plz (upd v (bx b) ((v (bx b)) + q)) (upd h (bx b) ((h (bx b)) + (q * (10 + 30 * t)))) db dl du) dq dw M) (obsW (plz (upd v (bx b) ((v (bx b)) + q)) (upd h (bx b) ((h (bx b)) + (q * (10 + 30 * t)))) db dl du) dw M) (evc E) (psh ek 116) (psh eb b) (psh el q) t1 t2 (t3 + q) t4 (t5 + (q * (10 + 30 * t))) t6 := rfl
          exact wc_iret hx hb hr hlocks (by rw [e_10]; exact hP) hS m_updS dX8_doRunTap_135
        · have c_9' : 100 < ((v (bx b)) + q) := Int32.not_le.mp c_9
          exact absurd hF (by simp [filF, tapB, b_2, b_6, b_8, c_9', c_9])
      · have b_11 : ¬ (inR q 1 20 = true) := m_ite0.mp c_7
        exact absurd hF (by simp [filF, tapB, b_2, b_6, b_11])
  · have b_12 : ¬ (inI b (nI N) = true) := m_ite0.mp c_1
    exact absurd hF (by simp [filF, tapB, b_12])

set_option maxRecDepth 100000 in
set_option maxHeartbeats 1000000 in
theorem c_X8_doRunTap_no (l : Launch) (G : va_G) (cy : Nat → ClassId) (am aS aBf aAs aSv aPa aOu aTx aCo K OM LN PO CM : Nat) (iS th iw ea fa : Int32) (N : Nat) (v h pl me : Nat → Int32) (M : Nat) (db dl du dq dw : Nat → Int32) (E : Nat) (ek eb el : Nat → Int32) (t1 t2 t3 t4 t5 t6 b t q : Int32) (hN : N ≤ 5) (hM : M ≤ 6) (hE : E ≤ 10) (hdd : ∀ j, j < M → dOK (db j)) (hw : ∀ j, j < 6 → dw j = 0 ∨ dw j = 1) (hF : ¬ filF N v b t q = 0) : WC l yX8_doRunTap wsX8_doRunTap { frames := 2, cells := 0, slots := 0, locals := 43 } G (PB G cy [(am, .inr (12, [.ref aS, .ref aBf, .ref aAs, .ref aSv, .int iS, .ref aPa, .int (nI K), .int th, .ref aOu, .int (nI OM), .ref aTx, .int (nI LN), .int (nI PO), .int iw, .int ea, .int fa, .ref aCo, .int (nI CM)])), (aS, .inl (cy 2, 89, .inl (encT N v h pl me M db dl du dq dw E ek eb el t1 t2 t3 t4 t5 t6)))]) [.ref am, .int b, .int t, .int q] [(am, .inr (12, [.ref aS, .ref aBf, .ref aAs, .ref aSv, .int iS, .ref aPa, .int (nI K), .int th, .ref aOu, .int (nI OM), .ref aTx, .int (nI LN), .int (nI PO), .int iw, .int ea, .int fa, .ref aCo, .int (nI CM)])), (aS, .inl (cy 2, 89, .inl (encT N v h pl me M db dl du dq dw E ek eb el t1 t2 t3 t4 t5 t6)))] [(am, .inr (12, [.ref aS, .ref aBf, .ref aAs, .ref aSv, .int iS, .ref aPa, .int (nI K), .int (mcT (filF N v b t q)), .ref aOu, .int (nI OM), .ref aTx, .int (nI LN), .int (nI PO), .int iw, .int ea, .int fa, .ref aCo, .int (nI CM)])), (aS, .inl (cy 2, 89, .inl (encT N v h pl me M db dl du dq dw E ek eb el t1 t2 t3 t4 t5 t6)))] (some (.int 0)) := by
  refine WC.ofW (cc := cX8_doRunTap) (maxL := 5) (ret := (some .int)) (by decide) rfl (Nat.le_of_ble_eq_true rfl) ?_
  intro p e s m below meth c S9 hr hlocks hPB hD hS ls hl
  obtain ⟨hx, hb, hml, hown, hts⟩ := id S9
  obtain ⟨hP, hK⟩ := hPB
  have hl : lv_has ls 5 [(0, .ref am), (1, .int b), (2, .int t), (3, .int q)] := hl
  refine lv_aload_n hx hb dX8_doRunTap_0 rfl (lv_at hl 0 rfl) ?_
  refine lv_iload_n hx hb dX8_doRunTap_1 rfl (lv_at hl 1 rfl) ?_
  refine c_roVi S9 (c_X8_isBath l G cy am aS aBf aAs aSv aPa aOu aTx aCo K OM LN PO CM iS th iw ea fa N v h pl me M db dl du dq dw E ek eb el t1 t2 t3 t4 t5 t6 b (by omega)) (cwV 1 hts gX8_doRunTap_X8_isBath rfl rfl rfl (by decide +kernel) ⟨Nat.le_of_ble_eq_true rfl, Nat.le_of_ble_eq_true rfl⟩) PB.blind (va_recv hK.1 hP (ci := 12) (q0 := 0) rfl rfl) (PB.at hK (m_Ppart hP [0, 1] rfl)) rfl hl.1 rfl (Nat.le_of_ble_eq_true rfl) ⟨Nat.zero_le _, Nat.zero_le _⟩ dX8_doRunTap_2 ?_
  refine lv_if_ne (tgt := 14) hx hb dX8_doRunTap_5 (by decide) (fun c_1 => ?_) (fun c_1 => ?_)
  · have b_2 : inI b (nI N) = true := m_ite1.mp c_1
    have q_3 := m_ixp (by omega) b_2
    have q_3' := q_3.2
    refine lv_iload_n hx hb dX8_doRunTap_14 rfl (lv_at hl 2 rfl) ?_
    refine lv_iconst (v := 0) hx hb dX8_doRunTap_15 (by decide) ?_
    refine lv_iconst (v := 2) hx hb dX8_doRunTap_16 (by decide) ?_
    refine c_roSi S9 (c_X8_in l G cy t 0 2) (va_cwS 3 hts gX8_doRunTap_X8_in rfl rfl rfl (by decide +kernel) ⟨Nat.le_of_ble_eq_true rfl, Nat.le_of_ble_eq_true rfl⟩) PB.blind (PB.at hK (m_Ppart hP [] rfl)) rfl hl.1 rfl (Nat.le_of_ble_eq_true rfl) ⟨Nat.zero_le _, Nat.zero_le _⟩ dX8_doRunTap_17 ?_
    refine lv_if_eq (tgt := 33) hx hb dX8_doRunTap_20 (by decide) (fun c_4 => ?_) (fun c_4 => ?_)
    · have b_5 : ¬ (inR t 0 2 = true) := m_ite0.mp c_4
      refine lv_aload_n hx hb dX8_doRunTap_33 rfl (lv_at hl 0 rfl) ?_
      refine lv_iconst (v := 2) hx hb dX8_doRunTap_34 (by decide) ?_
      refine c_wcVi (ws' := [(am, .inr (12, [.ref aS, .ref aBf, .ref aAs, .ref aSv, .int iS, .ref aPa, .int (nI K), .int 2, .ref aOu, .int (nI OM), .ref aTx, .int (nI LN), .int (nI PO), .int iw, .int ea, .int fa, .ref aCo, .int (nI CM)])), (aS, .inl (cy 2, 89, .inl (encT N v h pl me M db dl du dq dw E ek eb el t1 t2 t3 t4 t5 t6)))]) S9 (c_X8_fails l G cy am aS aBf aAs aSv aPa aOu aTx aCo K OM LN PO CM iS th iw ea fa N v h pl me M db dl du dq dw E ek eb el t1 t2 t3 t4 t5 t6 2) (cwV 1 hts gX8_doRunTap_X8_fails rfl rfl rfl (by decide +kernel) ⟨Nat.le_of_ble_eq_true rfl, Nat.le_of_ble_eq_true rfl⟩) PB.blind (va_recv hK.1 hP (ci := 12) (q0 := 0) rfl rfl) (PB.at hK (m_Ppart hP [0, 1] rfl)) hP hD hS [0, 1] rfl rfl m_f2 rfl rfl hl.1 rfl (Nat.le_of_ble_eq_true rfl) ⟨Nat.zero_le _, Nat.zero_le _⟩ dX8_doRunTap_35 (fun H locs hP hD hS => ?_)
      have e_6 : mcT (filF N v b t q) = 2 := (by simp [filF, tapB, mcT, b_2, b_5])
      exact wc_iret hx hb hr hlocks (by rw [e_6]; exact hP) hS rfl dX8_doRunTap_38
    · have b_7 : inR t 0 2 = true := m_ite1.mp c_4
      refine lv_iload_n hx hb dX8_doRunTap_23 rfl (lv_at hl 3 rfl) ?_
      refine lv_iconst (v := 1) hx hb dX8_doRunTap_24 (by decide) ?_
      refine lv_bipush (v := 20) hx hb dX8_doRunTap_25 (by decide) ?_
      refine c_roSi S9 (c_X8_in l G cy q 1 20) (va_cwS 3 hts gX8_doRunTap_X8_in rfl rfl rfl (by decide +kernel) ⟨Nat.le_of_ble_eq_true rfl, Nat.le_of_ble_eq_true rfl⟩) PB.blind (PB.at hK (m_Ppart hP [] rfl)) rfl hl.1 rfl (Nat.le_of_ble_eq_true rfl) ⟨Nat.zero_le _, Nat.zero_le _⟩ dX8_doRunTap_27 ?_
      refine lv_if_ne (tgt := 39) hx hb dX8_doRunTap_30 (by decide) (fun c_8 => ?_) (fun c_8 => ?_)
      · have b_9 : inR q 1 20 = true := m_ite1.mp c_8
        refine lv_aload_n hx hb dX8_doRunTap_39 rfl (lv_at hl 0 rfl) ?_
        refine lv_iload_n hx hb dX8_doRunTap_40 rfl (lv_at hl 1 rfl) ?_
        refine lv_iconst (v := 0) hx hb dX8_doRunTap_41 (by decide) ?_
        refine lv_t1 (show b = nI (bx b) from q_3.1) ?_
        refine c_roVi S9 (c_X8_of_v l G cy am aS aBf aAs aSv aPa aOu aTx aCo K OM LN PO CM iS th iw ea fa N v h pl me M db dl du dq dw E ek eb el t1 t2 t3 t4 t5 t6 (bx b) (by omega)) (cwV 2 hts gX8_doRunTap_X8_of rfl rfl rfl (by decide +kernel) ⟨Nat.le_of_ble_eq_true rfl, Nat.le_of_ble_eq_true rfl⟩) PB.blind (va_recv hK.1 hP (ci := 12) (q0 := 0) rfl rfl) (PB.at hK (m_Ppart hP [0, 1] rfl)) rfl hl.1 rfl (Nat.le_of_ble_eq_true rfl) ⟨Nat.zero_le _, Nat.zero_le _⟩ dX8_doRunTap_42 ?_
        refine lv_iload_n hx hb dX8_doRunTap_45 rfl (lv_at hl 3 rfl) ?_
        refine lv_iadd hx hb dX8_doRunTap_46 ?_
        refine lv_bipush (v := 100) hx hb dX8_doRunTap_47 (by decide) ?_
        refine lv_icmp_le (tgt := 58) hx hb dX8_doRunTap_49 (by decide) (fun c_10 => ?_) (fun c_10 => ?_)
        · have c_10' : ¬ 100 < ((v (bx b)) + q) := Int32.not_lt.mpr c_10
          exact absurd hF (by simp [filF, tapB, b_2, b_7, b_9, c_10', c_10])
        · have c_10' : 100 < ((v (bx b)) + q) := Int32.not_le.mp c_10
          refine lv_aload_n hx hb dX8_doRunTap_52 rfl (lv_at hl 0 rfl) ?_
          refine lv_iconst (v := 3) hx hb dX8_doRunTap_53 (by decide) ?_
          refine c_wcVi (ws' := [(am, .inr (12, [.ref aS, .ref aBf, .ref aAs, .ref aSv, .int iS, .ref aPa, .int (nI K), .int 3, .ref aOu, .int (nI OM), .ref aTx, .int (nI LN), .int (nI PO), .int iw, .int ea, .int fa, .ref aCo, .int (nI CM)])), (aS, .inl (cy 2, 89, .inl (encT N v h pl me M db dl du dq dw E ek eb el t1 t2 t3 t4 t5 t6)))]) S9 (c_X8_fails l G cy am aS aBf aAs aSv aPa aOu aTx aCo K OM LN PO CM iS th iw ea fa N v h pl me M db dl du dq dw E ek eb el t1 t2 t3 t4 t5 t6 3) (cwV 1 hts gX8_doRunTap_X8_fails rfl rfl rfl (by decide +kernel) ⟨Nat.le_of_ble_eq_true rfl, Nat.le_of_ble_eq_true rfl⟩) PB.blind (va_recv hK.1 hP (ci := 12) (q0 := 0) rfl rfl) (PB.at hK (m_Ppart hP [0, 1] rfl)) hP hD hS [0, 1] rfl rfl m_f2 rfl rfl hl.1 rfl (Nat.le_of_ble_eq_true rfl) ⟨Nat.zero_le _, Nat.zero_le _⟩ dX8_doRunTap_54 (fun H locs hP hD hS => ?_)
          have e_11 : mcT (filF N v b t q) = 3 := (by simp [filF, tapB, mcT, b_2, b_7, b_9, c_10', c_10])
          exact wc_iret hx hb hr hlocks (by rw [e_11]; exact hP) hS rfl dX8_doRunTap_57
      · have b_12 : ¬ (inR q 1 20 = true) := m_ite0.mp c_8
        refine lv_aload_n hx hb dX8_doRunTap_33 rfl (lv_at hl 0 rfl) ?_
        refine lv_iconst (v := 2) hx hb dX8_doRunTap_34 (by decide) ?_
        refine c_wcVi (ws' := [(am, .inr (12, [.ref aS, .ref aBf, .ref aAs, .ref aSv, .int iS, .ref aPa, .int (nI K), .int 2, .ref aOu, .int (nI OM), .ref aTx, .int (nI LN), .int (nI PO), .int iw, .int ea, .int fa, .ref aCo, .int (nI CM)])), (aS, .inl (cy 2, 89, .inl (encT N v h pl me M db dl du dq dw E ek eb el t1 t2 t3 t4 t5 t6)))]) S9 (c_X8_fails l G cy am aS aBf aAs aSv aPa aOu aTx aCo K OM LN PO CM iS th iw ea fa N v h pl me M db dl du dq dw E ek eb el t1 t2 t3 t4 t5 t6 2) (cwV 1 hts gX8_doRunTap_X8_fails rfl rfl rfl (by decide +kernel) ⟨Nat.le_of_ble_eq_true rfl, Nat.le_of_ble_eq_true rfl⟩) PB.blind (va_recv hK.1 hP (ci := 12) (q0 := 0) rfl rfl) (PB.at hK (m_Ppart hP [0, 1] rfl)) hP hD hS [0, 1] rfl rfl m_f2 rfl rfl hl.1 rfl (Nat.le_of_ble_eq_true rfl) ⟨Nat.zero_le _, Nat.zero_le _⟩ dX8_doRunTap_35 (fun H locs hP hD hS => ?_)
        have e_13 : mcT (filF N v b t q) = 2 := (by simp [filF, tapB, mcT, b_2, b_7, b_12])
        exact wc_iret hx hb hr hlocks (by rw [e_13]; exact hP) hS rfl dX8_doRunTap_38
  · have b_14 : ¬ (inI b (nI N) = true) := m_ite0.mp c_1
    refine lv_aload_n hx hb dX8_doRunTap_8 rfl (lv_at hl 0 rfl) ?_
    refine lv_iconst (v := 1) hx hb dX8_doRunTap_9 (by decide) ?_
    refine c_wcVi (ws' := [(am, .inr (12, [.ref aS, .ref aBf, .ref aAs, .ref aSv, .int iS, .ref aPa, .int (nI K), .int 1, .ref aOu, .int (nI OM), .ref aTx, .int (nI LN), .int (nI PO), .int iw, .int ea, .int fa, .ref aCo, .int (nI CM)])), (aS, .inl (cy 2, 89, .inl (encT N v h pl me M db dl du dq dw E ek eb el t1 t2 t3 t4 t5 t6)))]) S9 (c_X8_fails l G cy am aS aBf aAs aSv aPa aOu aTx aCo K OM LN PO CM iS th iw ea fa N v h pl me M db dl du dq dw E ek eb el t1 t2 t3 t4 t5 t6 1) (cwV 1 hts gX8_doRunTap_X8_fails rfl rfl rfl (by decide +kernel) ⟨Nat.le_of_ble_eq_true rfl, Nat.le_of_ble_eq_true rfl⟩) PB.blind (va_recv hK.1 hP (ci := 12) (q0 := 0) rfl rfl) (PB.at hK (m_Ppart hP [0, 1] rfl)) hP hD hS [0, 1] rfl rfl m_f2 rfl rfl hl.1 rfl (Nat.le_of_ble_eq_true rfl) ⟨Nat.zero_le _, Nat.zero_le _⟩ dX8_doRunTap_10 (fun H locs hP hD hS => ?_)
    have e_15 : mcT (filF N v b t q) = 1 := (by simp [filF, tapB, mcT, b_14])
    exact wc_iret hx hb hr hlocks (by rw [e_15]; exact hP) hS rfl dX8_doRunTap_13

set_option maxRecDepth 100000 in
set_option maxHeartbeats 1000000 in
theorem c_X8_doSetPlug_ok (l : Launch) (G : va_G) (cy : Nat → ClassId) (am aS aBf aAs aSv aPa aOu aTx aCo K OM LN PO CM : Nat) (iS th iw ea fa : Int32) (N : Nat) (v h pl me : Nat → Int32) (M : Nat) (db dl du dq dw : Nat → Int32) (E : Nat) (ek eb el : Nat → Int32) (t1 t2 t3 t4 t5 t6 b x : Int32) (hN : N ≤ 5) (hF : plgF N b = 0) : WC l yX8_doSetPlug wsX8_doSetPlug { frames := 2, cells := 0, slots := 0, locals := 43 } G (PB G cy [(am, .inr (12, [.ref aS, .ref aBf, .ref aAs, .ref aSv, .int iS, .ref aPa, .int (nI K), .int th, .ref aOu, .int (nI OM), .ref aTx, .int (nI LN), .int (nI PO), .int iw, .int ea, .int fa, .ref aCo, .int (nI CM)])), (aS, .inl (cy 2, 89, .inl (encT N v h pl me M db dl du dq dw E ek eb el t1 t2 t3 t4 t5 t6)))]) [.ref am, .int b, .int x] [(am, .inr (12, [.ref aS, .ref aBf, .ref aAs, .ref aSv, .int iS, .ref aPa, .int (nI K), .int th, .ref aOu, .int (nI OM), .ref aTx, .int (nI LN), .int (nI PO), .int iw, .int ea, .int fa, .ref aCo, .int (nI CM)])), (aS, .inl (cy 2, 89, .inl (encT N v h pl me M db dl du dq dw E ek eb el t1 t2 t3 t4 t5 t6)))] [(am, .inr (12, [.ref aS, .ref aBf, .ref aAs, .ref aSv, .int iS, .ref aPa, .int (nI K), .int th, .ref aOu, .int (nI OM), .ref aTx, .int (nI LN), .int (nI PO), .int iw, .int ea, .int fa, .ref aCo, .int (nI CM)])), (aS, .inl (cy 2, 89, .inl (encT N v h (upd pl (bx b) x) me M db dl du dq dw E ek eb el t1 t2 t3 t4 t5 t6)))] (some (.int (1 - (if pl (bx b) = 0 ∧ bx b < N then 1 else 0)))) := by
  refine WC.ofW (cc := cX8_doSetPlug) (maxL := 4) (ret := (some .int)) (by decide) rfl (Nat.le_of_ble_eq_true rfl) ?_
  intro p e s m below meth c S9 hr hlocks hPB hD hS ls hl
  obtain ⟨hx, hb, hml, hown, hts⟩ := id S9
  obtain ⟨hP, hK⟩ := hPB
  have hl : lv_has ls 4 [(0, .ref am), (1, .int b), (2, .int x)] := hl
  refine lv_aload_n hx hb dX8_doSetPlug_0 rfl (lv_at hl 0 rfl) ?_
  refine lv_iload_n hx hb dX8_doSetPlug_1 rfl (lv_at hl 1 rfl) ?_
  refine c_roVi S9 (c_X8_isBath l G cy am aS aBf aAs aSv aPa aOu aTx aCo K OM LN PO CM iS th iw ea fa N v h pl me M db dl du dq dw E ek eb el t1 t2 t3 t4 t5 t6 b (by omega)) (cwV 1 hts gX8_doSetPlug_X8_isBath rfl rfl rfl (by decide +kernel) ⟨Nat.le_of_ble_eq_true rfl, Nat.le_of_ble_eq_true rfl⟩) PB.blind (va_recv hK.1 hP (ci := 12) (q0 := 0) rfl rfl) (PB.at hK (m_Ppart hP [0, 1] rfl)) rfl hl.1 rfl (Nat.le_of_ble_eq_true rfl) ⟨Nat.zero_le _, Nat.zero_le _⟩ dX8_doSetPlug_2 ?_
  refine lv_if_ne (tgt := 14) hx hb dX8_doSetPlug_5 (by decide) (fun c_1 => ?_) (fun c_1 => ?_)
  · have b_2 : inI b (nI N) = true := m_ite1.mp c_1
    have q_3 := m_ixp (by omega) b_2
    have q_3' := q_3.2
    refine lv_aload_n hx hb dX8_doSetPlug_14 rfl (lv_at hl 0 rfl) ?_
    refine lv_iload_n hx hb dX8_doSetPlug_15 rfl (lv_at hl 1 rfl) ?_
    refine lv_iconst (v := 2) hx hb dX8_doSetPlug_16 (by decide) ?_
    refine lv_t1 (show b = nI (bx b) from q_3.1) ?_
    refine c_roVi S9 (c_X8_of_o l G cy am aS aBf aAs aSv aPa aOu aTx aCo K OM LN PO CM iS th iw ea fa N v h pl me M db dl du dq dw E ek eb el t1 t2 t3 t4 t5 t6 (bx b) (by omega)) (cwV 2 hts gX8_doSetPlug_X8_of rfl rfl rfl (by decide +kernel) ⟨Nat.le_of_ble_eq_true rfl, Nat.le_of_ble_eq_true rfl⟩) PB.blind (va_recv hK.1 hP (ci := 12) (q0 := 0) rfl rfl) (PB.at hK (m_Ppart hP [0, 1] rfl)) rfl hl.1 rfl (Nat.le_of_ble_eq_true rfl) ⟨Nat.zero_le _, Nat.zero_le _⟩ dX8_doSetPlug_17 ?_
    refine lv_istore_n (lv' := [(3, .int (if pl (bx b) = 0 ∧ (bx b) < N then 1 else 0)), (0, .ref am), (1, .int b), (2, .int x)]) hx hb dX8_doSetPlug_20 rfl hl (by decide) rfl (fun ls hl => ?_)
    refine lv_aload_n hx hb dX8_doSetPlug_21 rfl (lv_at hl 1 rfl) ?_
    refine lv_iload_n hx hb dX8_doSetPlug_22 rfl (lv_at hl 2 rfl) ?_
    refine lv_iconst (v := 2) hx hb dX8_doSetPlug_23 (by decide) ?_
    refine lv_iload_n hx hb dX8_doSetPlug_24 rfl (lv_at hl 3 rfl) ?_
    refine lv_if_eq (tgt := 32) hx hb dX8_doSetPlug_25 (by decide) (fun c_4 => ?_) (fun c_4 => ?_)
    · refine lv_iconst (v := 1) hx hb dX8_doSetPlug_32 (by decide) ?_
      refine lv_t2 (show b = nI (bx b) from q_3.1) ?_
      refine c_wcVv (ws' := [(am, .inr (12, [.ref aS, .ref aBf, .ref aAs, .ref aSv, .int iS, .ref aPa, .int (nI K), .int th, .ref aOu, .int (nI OM), .ref aTx, .int (nI LN), .int (nI PO), .int iw, .int ea, .int fa, .ref aCo, .int (nI CM)])), (aS, .inl (cy 2, 89, .inl (encT N v h (upd pl (bx b) x) me M db dl du dq dw E ek eb el t1 t2 t3 t4 t5 t6)))]) S9 (c_X8_sets_o l G cy am aS aBf aAs aSv aPa aOu aTx aCo K OM LN PO CM iS th iw ea fa N v h pl me M db dl du dq dw E ek eb el t1 t2 t3 t4 t5 t6 (bx b) 1 x (by omega) (by omega) (by simp [c_4])) (cwV 3 hts gX8_doSetPlug_X8_sets rfl rfl rfl (by decide +kernel) ⟨Nat.le_of_ble_eq_true rfl, Nat.le_of_ble_eq_true rfl⟩) PB.blind (va_recv hK.1 hP (ci := 12) (q0 := 0) rfl rfl) (PB.at hK (m_Ppart hP [0, 1] rfl)) hP hD hS [0, 1] rfl rfl m_f2 rfl rfl hl.1 rfl (Nat.le_of_ble_eq_true rfl) ⟨Nat.zero_le _, Nat.zero_le _⟩ dX8_doSetPlug_33 (fun H locs hP hD hS => ?_)
      refine lv_iconst (v := 1) hx hb dX8_doSetPlug_36 (by decide) ?_
      refine lv_iload_n hx hb dX8_doSetPlug_37 rfl (lv_at hl 0 rfl) ?_
      refine lv_isub hx hb dX8_doSetPlug_38 ?_
      exact wc_iret hx hb hr hlocks hP hS rfl dX8_doSetPlug_39
    · refine lv_iconst (v := 0) hx hb dX8_doSetPlug_28 (by decide) ?_
      refine lv_goto (tgt := 33) hx hb dX8_doSetPlug_29 (by decide) ?_
      refine lv_t2 (show b = nI (bx b) from q_3.1) ?_
      refine c_wcVv (ws' := [(am, .inr (12, [.ref aS, .ref aBf, .ref aAs, .ref aSv, .int iS, .ref aPa, .int (nI K), .int th, .ref aOu, .int (nI OM), .ref aTx, .int (nI LN), .int (nI PO), .int iw, .int ea, .int fa, .ref aCo, .int (nI CM)])), (aS, .inl (cy 2, 89, .inl (encT N v h (upd pl (bx b) x) me M db dl du dq dw E ek eb el t1 t2 t3 t4 t5 t6)))]) S9 (c_X8_sets_o l G cy am aS aBf aAs aSv aPa aOu aTx aCo K OM LN PO CM iS th iw ea fa N v h pl me M db dl du dq dw E ek eb el t1 t2 t3 t4 t5 t6 (bx b) 0 x (by omega) (by omega) (by simp [c_4])) (cwV 3 hts gX8_doSetPlug_X8_sets rfl rfl rfl (by decide +kernel) ⟨Nat.le_of_ble_eq_true rfl, Nat.le_of_ble_eq_true rfl⟩) PB.blind (va_recv hK.1 hP (ci := 12) (q0 := 0) rfl rfl) (PB.at hK (m_Ppart hP [0, 1] rfl)) hP hD hS [0, 1] rfl rfl m_f2 rfl rfl hl.1 rfl (Nat.le_of_ble_eq_true rfl) ⟨Nat.zero_le _, Nat.zero_le _⟩ dX8_doSetPlug_33 (fun H locs hP hD hS => ?_)
      refine lv_iconst (v := 1) hx hb dX8_doSetPlug_36 (by decide) ?_
      refine lv_iload_n hx hb dX8_doSetPlug_37 rfl (lv_at hl 0 rfl) ?_
      refine lv_isub hx hb dX8_doSetPlug_38 ?_
      exact wc_iret hx hb hr hlocks hP hS rfl dX8_doSetPlug_39
  · have b_5 : ¬ (inI b (nI N) = true) := m_ite0.mp c_1
    exact absurd hF (by simp [plgF, b_5])

set_option maxRecDepth 100000 in
set_option maxHeartbeats 1000000 in
theorem c_X8_doSetPlug_no (l : Launch) (G : va_G) (cy : Nat → ClassId) (am aS aBf aAs aSv aPa aOu aTx aCo K OM LN PO CM : Nat) (iS th iw ea fa : Int32) (N : Nat) (v h pl me : Nat → Int32) (M : Nat) (db dl du dq dw : Nat → Int32) (E : Nat) (ek eb el : Nat → Int32) (t1 t2 t3 t4 t5 t6 b x : Int32) (hN : N ≤ 5) (hF : ¬ plgF N b = 0) : WC l yX8_doSetPlug wsX8_doSetPlug { frames := 2, cells := 0, slots := 0, locals := 43 } G (PB G cy [(am, .inr (12, [.ref aS, .ref aBf, .ref aAs, .ref aSv, .int iS, .ref aPa, .int (nI K), .int th, .ref aOu, .int (nI OM), .ref aTx, .int (nI LN), .int (nI PO), .int iw, .int ea, .int fa, .ref aCo, .int (nI CM)])), (aS, .inl (cy 2, 89, .inl (encT N v h pl me M db dl du dq dw E ek eb el t1 t2 t3 t4 t5 t6)))]) [.ref am, .int b, .int x] [(am, .inr (12, [.ref aS, .ref aBf, .ref aAs, .ref aSv, .int iS, .ref aPa, .int (nI K), .int th, .ref aOu, .int (nI OM), .ref aTx, .int (nI LN), .int (nI PO), .int iw, .int ea, .int fa, .ref aCo, .int (nI CM)])), (aS, .inl (cy 2, 89, .inl (encT N v h pl me M db dl du dq dw E ek eb el t1 t2 t3 t4 t5 t6)))] [(am, .inr (12, [.ref aS, .ref aBf, .ref aAs, .ref aSv, .int iS, .ref aPa, .int (nI K), .int (plgF N b), .ref aOu, .int (nI OM), .ref aTx, .int (nI LN), .int (nI PO), .int iw, .int ea, .int fa, .ref aCo, .int (nI CM)])), (aS, .inl (cy 2, 89, .inl (encT N v h pl me M db dl du dq dw E ek eb el t1 t2 t3 t4 t5 t6)))] (some (.int 0)) := by
  refine WC.ofW (cc := cX8_doSetPlug) (maxL := 4) (ret := (some .int)) (by decide) rfl (Nat.le_of_ble_eq_true rfl) ?_
  intro p e s m below meth c S9 hr hlocks hPB hD hS ls hl
  obtain ⟨hx, hb, hml, hown, hts⟩ := id S9
  obtain ⟨hP, hK⟩ := hPB
  have hl : lv_has ls 4 [(0, .ref am), (1, .int b), (2, .int x)] := hl
  refine lv_aload_n hx hb dX8_doSetPlug_0 rfl (lv_at hl 0 rfl) ?_
  refine lv_iload_n hx hb dX8_doSetPlug_1 rfl (lv_at hl 1 rfl) ?_
  refine c_roVi S9 (c_X8_isBath l G cy am aS aBf aAs aSv aPa aOu aTx aCo K OM LN PO CM iS th iw ea fa N v h pl me M db dl du dq dw E ek eb el t1 t2 t3 t4 t5 t6 b (by omega)) (cwV 1 hts gX8_doSetPlug_X8_isBath rfl rfl rfl (by decide +kernel) ⟨Nat.le_of_ble_eq_true rfl, Nat.le_of_ble_eq_true rfl⟩) PB.blind (va_recv hK.1 hP (ci := 12) (q0 := 0) rfl rfl) (PB.at hK (m_Ppart hP [0, 1] rfl)) rfl hl.1 rfl (Nat.le_of_ble_eq_true rfl) ⟨Nat.zero_le _, Nat.zero_le _⟩ dX8_doSetPlug_2 ?_
  refine lv_if_ne (tgt := 14) hx hb dX8_doSetPlug_5 (by decide) (fun c_1 => ?_) (fun c_1 => ?_)
  · have b_2 : inI b (nI N) = true := m_ite1.mp c_1
    have q_3 := m_ixp (by omega) b_2
    have q_3' := q_3.2
    exact absurd hF (by simp [plgF, b_2])
  · have b_4 : ¬ (inI b (nI N) = true) := m_ite0.mp c_1
    refine lv_aload_n hx hb dX8_doSetPlug_8 rfl (lv_at hl 0 rfl) ?_
    refine lv_iconst (v := 1) hx hb dX8_doSetPlug_9 (by decide) ?_
    refine c_wcVi (ws' := [(am, .inr (12, [.ref aS, .ref aBf, .ref aAs, .ref aSv, .int iS, .ref aPa, .int (nI K), .int 1, .ref aOu, .int (nI OM), .ref aTx, .int (nI LN), .int (nI PO), .int iw, .int ea, .int fa, .ref aCo, .int (nI CM)])), (aS, .inl (cy 2, 89, .inl (encT N v h pl me M db dl du dq dw E ek eb el t1 t2 t3 t4 t5 t6)))]) S9 (c_X8_fails l G cy am aS aBf aAs aSv aPa aOu aTx aCo K OM LN PO CM iS th iw ea fa N v h pl me M db dl du dq dw E ek eb el t1 t2 t3 t4 t5 t6 1) (cwV 1 hts gX8_doSetPlug_X8_fails rfl rfl rfl (by decide +kernel) ⟨Nat.le_of_ble_eq_true rfl, Nat.le_of_ble_eq_true rfl⟩) PB.blind (va_recv hK.1 hP (ci := 12) (q0 := 0) rfl rfl) (PB.at hK (m_Ppart hP [0, 1] rfl)) hP hD hS [0, 1] rfl rfl m_f2 rfl rfl hl.1 rfl (Nat.le_of_ble_eq_true rfl) ⟨Nat.zero_le _, Nat.zero_le _⟩ dX8_doSetPlug_10 (fun H locs hP hD hS => ?_)
    have e_5 : plgF N b = 1 := (by simp [plgF, b_4])
    exact wc_iret hx hb hr hlocks (by rw [e_5]; exact hP) hS rfl dX8_doSetPlug_13

set_option maxRecDepth 100000 in
set_option maxHeartbeats 1000000 in
theorem c_X8_doPour_ok (l : Launch) (G : va_G) (cy : Nat → ClassId) (am aS aBf aAs aSv aPa aOu aTx aCo K OM LN PO CM : Nat) (iS th iw ea fa : Int32) (N : Nat) (v h pl me : Nat → Int32) (M : Nat) (db dl du dq dw : Nat → Int32) (E : Nat) (ek eb el : Nat → Int32) (t1 t2 t3 t4 t5 t6 b t q : Int32) (hN : N ≤ 5) (hM : M ≤ 6) (hE : E ≤ 10) (hdd : ∀ j, j < M → dOK (db j)) (hw : ∀ j, j < 6 → dw j = 0 ∨ dw j = 1) (hq9 : ¬ q = -1) (hvz : ¬ v (bx b) = 0) (hF : traF N v b t q = 0) : WC l yX8_doPour wsX8_doPour { frames := 4, cells := 0, slots := 0, locals := 88 } G (PB G cy [(am, .inr (12, [.ref aS, .ref aBf, .ref aAs, .ref aSv, .int iS, .ref aPa, .int (nI K), .int th, .ref aOu, .int (nI OM), .ref aTx, .int (nI LN), .int (nI PO), .int iw, .int ea, .int fa, .ref aCo, .int (nI CM)])), (aS, .inl (cy 2, 89, .inl (encT N v h pl me M db dl du dq dw E ek eb el t1 t2 t3 t4 t5 t6)))]) [.ref am, .int b, .int t, .int q] [(am, .inr (12, [.ref aS, .ref aBf, .ref aAs, .ref aSv, .int iS, .ref aPa, .int (nI K), .int th, .ref aOu, .int (nI OM), .ref aTx, .int (nI LN), .int (nI PO), .int iw, .int ea, .int fa, .ref aCo, .int (nI CM)])), (aS, .inl (cy 2, 89, .inl (encT N v h pl me M db dl du dq dw E ek eb el t1 t2 t3 t4 t5 t6)))] [(am, .inr (12, [.ref aS, .ref aBf, .ref aAs, .ref aSv, .int iS, .ref aPa, .int (nI K), .int th, .ref aOu, .int (nI OM), .ref aTx, .int (nI LN), .int (nI PO), .int iw, .int ea, .int fa, .ref aCo, .int (nI CM)])), (aS, .inl (cy 2, 89, .inl (encT N (upd (upd v (bx b) (v (bx b) - q)) (bx t) (upd v (bx b) (v (bx b) - q) (bx t) + q)) (upd (upd h (bx b) (h (bx b) - h (bx b) * q / v (bx b))) (bx t) (upd h (bx b) (h (bx b) - h (bx b) * q / v (bx b)) (bx t) + h (bx b) * q / v (bx b))) pl me M db dl du (obsQ (plz (upd (upd v (bx b) (v (bx b) - q)) (bx t) (upd v (bx b) (v (bx b) - q) (bx t) + q)) (upd (upd h (bx b) (h (bx b) - h (bx b) * q / v (bx b))) (bx t) (upd h (bx b) (h (bx b) - h (bx b) * q / v (bx b)) (bx t) + h (bx b) * q / v (bx b))) db dl du) dq dw M) (obsW (plz (upd (upd v (bx b) (v (bx b) - q)) (bx t) (upd v (bx b) (v (bx b) - q) (bx t) + q)) (upd (upd h (bx b) (h (bx b) - h (bx b) * q / v (bx b))) (bx t) (upd h (bx b) (h (bx b) - h (bx b) * q / v (bx b)) (bx t) + h (bx b) * q / v (bx b))) db dl du) dw M) (evc E) (psh ek 112) (psh eb b) (psh el q) t1 t2 t3 t4 t5 t6)))] (some (.int (h (bx b) * q / v (bx b)))) := by
  refine WC.ofW (cc := cX8_doPour) (maxL := 5) (ret := (some .int)) (by decide) rfl (Nat.le_of_ble_eq_true rfl) ?_
  intro p e s m below meth c S9 hr hlocks hPB hD hS ls hl
  obtain ⟨hx, hb, hml, hown, hts⟩ := id S9
  obtain ⟨hP, hK⟩ := hPB
  have hl : lv_has ls 5 [(0, .ref am), (1, .int b), (2, .int t), (3, .int q)] := hl
  refine lv_aload_n hx hb dX8_doPour_0 rfl (lv_at hl 0 rfl) ?_
  refine lv_iload_n hx hb dX8_doPour_1 rfl (lv_at hl 1 rfl) ?_
  refine c_roVi S9 (c_X8_isBath l G cy am aS aBf aAs aSv aPa aOu aTx aCo K OM LN PO CM iS th iw ea fa N v h pl me M db dl du dq dw E ek eb el t1 t2 t3 t4 t5 t6 b (by omega)) (cwV 1 hts gX8_doPour_X8_isBath rfl rfl rfl (by decide +kernel) ⟨Nat.le_of_ble_eq_true rfl, Nat.le_of_ble_eq_true rfl⟩) PB.blind (va_recv hK.1 hP (ci := 12) (q0 := 0) rfl rfl) (PB.at hK (m_Ppart hP [0, 1] rfl)) rfl hl.1 rfl (Nat.le_of_ble_eq_true rfl) ⟨Nat.zero_le _, Nat.zero_le _⟩ dX8_doPour_2 ?_
  refine lv_if_eq (tgt := 16) hx hb dX8_doPour_5 (by decide) (fun c_1 => ?_) (fun c_1 => ?_)
  · have b_2 : ¬ (inI b (nI N) = true) := m_ite0.mp c_1
    exact absurd hF (by simp [traF, b_2])
  · have b_3 : inI b (nI N) = true := m_ite1.mp c_1
    have q_4 := m_ixp (by omega) b_3
    have q_4' := q_4.2
    refine lv_aload_n hx hb dX8_doPour_8 rfl (lv_at hl 0 rfl) ?_
    refine lv_iload_n hx hb dX8_doPour_9 rfl (lv_at hl 2 rfl) ?_
    refine c_roVi S9 (c_X8_isBath l G cy am aS aBf aAs aSv aPa aOu aTx aCo K OM LN PO CM iS th iw ea fa N v h pl me M db dl du dq dw E ek eb el t1 t2 t3 t4 t5 t6 t (by omega)) (cwV 1 hts gX8_doPour_X8_isBath rfl rfl rfl (by decide +kernel) ⟨Nat.le_of_ble_eq_true rfl, Nat.le_of_ble_eq_true rfl⟩) PB.blind (va_recv hK.1 hP (ci := 12) (q0 := 0) rfl rfl) (PB.at hK (m_Ppart hP [0, 1] rfl)) rfl hl.1 rfl (Nat.le_of_ble_eq_true rfl) ⟨Nat.zero_le _, Nat.zero_le _⟩ dX8_doPour_10 ?_
    refine lv_if_ne (tgt := 22) hx hb dX8_doPour_13 (by decide) (fun c_5 => ?_) (fun c_5 => ?_)
    · have b_6 : inI t (nI N) = true := m_ite1.mp c_5
      have q_7 := m_ixp (by omega) b_6
      have q_7' := q_7.2
      refine lv_iload_n hx hb dX8_doPour_22 rfl (lv_at hl 1 rfl) ?_
      refine lv_iload_n hx hb dX8_doPour_23 rfl (lv_at hl 2 rfl) ?_
      refine lv_icmp_eq (tgt := 37) hx hb dX8_doPour_24 (by decide) (fun c_8 => ?_) (fun c_8 => ?_)
      · have k_9 : bx b = bx t := (m_eqN (a := bx b) (b := bx t) q_4.1 q_7.1 (by omega) (by omega)).mp c_8
        exact absurd hF (by simp [traF, b_3, b_6, c_8, k_9])
      · have k_10 : ¬ (bx b = bx t) := fun z => c_8 ((m_eqN (a := bx b) (b := bx t) q_4.1 q_7.1 (by omega) (by omega)).mpr z)
        refine lv_iload_n hx hb dX8_doPour_27 rfl (lv_at hl 3 rfl) ?_
        refine lv_iconst (v := 1) hx hb dX8_doPour_28 (by decide) ?_
        refine lv_bipush (v := 99) hx hb dX8_doPour_29 (by decide) ?_
        refine c_roSi S9 (c_X8_in l G cy q 1 99) (va_cwS 3 hts gX8_doPour_X8_in rfl rfl rfl (by decide +kernel) ⟨Nat.le_of_ble_eq_true rfl, Nat.le_of_ble_eq_true rfl⟩) PB.blind (PB.at hK (m_Ppart hP [] rfl)) rfl hl.1 rfl (Nat.le_of_ble_eq_true rfl) ⟨Nat.zero_le _, Nat.zero_le _⟩ dX8_doPour_31 ?_
        refine lv_if_ne (tgt := 43) hx hb dX8_doPour_34 (by decide) (fun c_11 => ?_) (fun c_11 => ?_)
        · have b_12 : inR q 1 99 = true := m_ite1.mp c_11
          refine lv_aload_n hx hb dX8_doPour_43 rfl (lv_at hl 0 rfl) ?_
          refine lv_iload_n hx hb dX8_doPour_44 rfl (lv_at hl 1 rfl) ?_
          refine lv_iconst (v := 0) hx hb dX8_doPour_45 (by decide) ?_
          refine lv_t1 (show b = nI (bx b) from q_4.1) ?_
          refine c_roVi S9 (c_X8_of_v l G cy am aS aBf aAs aSv aPa aOu aTx aCo K OM LN PO CM iS th iw ea fa N v h pl me M db dl du dq dw E ek eb el t1 t2 t3 t4 t5 t6 (bx b) (by omega)) (cwV 2 hts gX8_doPour_X8_of rfl rfl rfl (by decide +kernel) ⟨Nat.le_of_ble_eq_true rfl, Nat.le_of_ble_eq_true rfl⟩) PB.blind (va_recv hK.1 hP (ci := 12) (q0 := 0) rfl rfl) (PB.at hK (m_Ppart hP [0, 1] rfl)) rfl hl.1 rfl (Nat.le_of_ble_eq_true rfl) ⟨Nat.zero_le _, Nat.zero_le _⟩ dX8_doPour_46 ?_
          refine lv_iload_n hx hb dX8_doPour_49 rfl (lv_at hl 3 rfl) ?_
          refine lv_icmp_ge (tgt := 59) hx hb dX8_doPour_50 (by decide) (fun c_13 => ?_) (fun c_13 => ?_)
          · have c_13' : ¬ (v (bx b)) < q := Int32.not_lt.mpr c_13
            refine lv_aload_n hx hb dX8_doPour_59 rfl (lv_at hl 0 rfl) ?_
            refine lv_iload_n hx hb dX8_doPour_60 rfl (lv_at hl 2 rfl) ?_
            refine lv_iconst (v := 0) hx hb dX8_doPour_61 (by decide) ?_
            refine lv_t1 (show t = nI (bx t) from q_7.1) ?_
            refine c_roVi S9 (c_X8_of_v l G cy am aS aBf aAs aSv aPa aOu aTx aCo K OM LN PO CM iS th iw ea fa N v h pl me M db dl du dq dw E ek eb el t1 t2 t3 t4 t5 t6 (bx t) (by omega)) (cwV 2 hts gX8_doPour_X8_of rfl rfl rfl (by decide +kernel) ⟨Nat.le_of_ble_eq_true rfl, Nat.le_of_ble_eq_true rfl⟩) PB.blind (va_recv hK.1 hP (ci := 12) (q0 := 0) rfl rfl) (PB.at hK (m_Ppart hP [0, 1] rfl)) rfl hl.1 rfl (Nat.le_of_ble_eq_true rfl) ⟨Nat.zero_le _, Nat.zero_le _⟩ dX8_doPour_62 ?_
            refine lv_iload_n hx hb dX8_doPour_65 rfl (lv_at hl 3 rfl) ?_
            refine lv_iadd hx hb dX8_doPour_66 ?_
            refine lv_bipush (v := 100) hx hb dX8_doPour_67 (by decide) ?_
            refine lv_icmp_le (tgt := 78) hx hb dX8_doPour_69 (by decide) (fun c_14 => ?_) (fun c_14 => ?_)
            · have c_14' : ¬ 100 < ((v (bx t)) + q) := Int32.not_lt.mpr c_14
              refine lv_aload_n hx hb dX8_doPour_78 rfl (lv_at hl 0 rfl) ?_
              refine lv_iload_n hx hb dX8_doPour_79 rfl (lv_at hl 1 rfl) ?_
              refine lv_iconst (v := 1) hx hb dX8_doPour_80 (by decide) ?_
              refine lv_t1 (show b = nI (bx b) from q_4.1) ?_
              refine c_roVi S9 (c_X8_of_h l G cy am aS aBf aAs aSv aPa aOu aTx aCo K OM LN PO CM iS th iw ea fa N v h pl me M db dl du dq dw E ek eb el t1 t2 t3 t4 t5 t6 (bx b) (by omega)) (cwV 2 hts gX8_doPour_X8_of rfl rfl rfl (by decide +kernel) ⟨Nat.le_of_ble_eq_true rfl, Nat.le_of_ble_eq_true rfl⟩) PB.blind (va_recv hK.1 hP (ci := 12) (q0 := 0) rfl rfl) (PB.at hK (m_Ppart hP [0, 1] rfl)) rfl hl.1 rfl (Nat.le_of_ble_eq_true rfl) ⟨Nat.zero_le _, Nat.zero_le _⟩ dX8_doPour_81 ?_
              refine lv_iload_n hx hb dX8_doPour_84 rfl (lv_at hl 3 rfl) ?_
              refine lv_imul hx hb dX8_doPour_85 ?_
              refine lv_aload_n hx hb dX8_doPour_86 rfl (lv_at hl 0 rfl) ?_
              refine lv_iload_n hx hb dX8_doPour_87 rfl (lv_at hl 1 rfl) ?_
              refine lv_iconst (v := 0) hx hb dX8_doPour_88 (by decide) ?_
              refine lv_t1 (show b = nI (bx b) from q_4.1) ?_
              refine c_roVi S9 (c_X8_of_v l G cy am aS aBf aAs aSv aPa aOu aTx aCo K OM LN PO CM iS th iw ea fa N v h pl me M db dl du dq dw E ek eb el t1 t2 t3 t4 t5 t6 (bx b) (by omega)) (cwV 2 hts gX8_doPour_X8_of rfl rfl rfl (by decide +kernel) ⟨Nat.le_of_ble_eq_true rfl, Nat.le_of_ble_eq_true rfl⟩) PB.blind (va_recv hK.1 hP (ci := 12) (q0 := 0) rfl rfl) (PB.at hK (m_Ppart hP [0, 1] rfl)) rfl hl.1 rfl (Nat.le_of_ble_eq_true rfl) ⟨Nat.zero_le _, Nat.zero_le _⟩ dX8_doPour_89 ?_
              refine lv_idiv hx hb dX8_doPour_92 hvz ?_
              refine lv_istore (lv' := [(4, .int (((h (bx b)) * q) / (v (bx b)))), (0, .ref am), (1, .int b), (2, .int t), (3, .int q)]) hx hb dX8_doPour_93 hl (by decide) rfl (fun ls hl => ?_)
              refine lv_aload_n hx hb dX8_doPour_95 rfl (lv_at hl 1 rfl) ?_
              refine lv_iload_n hx hb dX8_doPour_96 rfl (lv_at hl 2 rfl) ?_
              refine lv_iconst (v := 0) hx hb dX8_doPour_97 (by decide) ?_
              refine lv_aload_n hx hb dX8_doPour_98 rfl (lv_at hl 1 rfl) ?_
              refine lv_iload_n hx hb dX8_doPour_99 rfl (lv_at hl 2 rfl) ?_
              refine lv_iconst (v := 0) hx hb dX8_doPour_100 (by decide) ?_
              refine lv_t1 (show b = nI (bx b) from q_4.1) ?_
              refine c_roVi S9 (c_X8_of_v l G cy am aS aBf aAs aSv aPa aOu aTx aCo K OM LN PO CM iS th iw ea fa N v h pl me M db dl du dq dw E ek eb el t1 t2 t3 t4 t5 t6 (bx b) (by omega)) (cwV 2 hts gX8_doPour_X8_of rfl rfl rfl (by decide +kernel) ⟨Nat.le_of_ble_eq_true rfl, Nat.le_of_ble_eq_true rfl⟩) PB.blind (va_recv hK.1 hP (ci := 12) (q0 := 0) rfl rfl) (PB.at hK (m_Ppart hP [0, 1] rfl)) rfl hl.1 rfl (Nat.le_of_ble_eq_true rfl) ⟨Nat.zero_le _, Nat.zero_le _⟩ dX8_doPour_101 ?_
              refine lv_iload_n hx hb dX8_doPour_104 rfl (lv_at hl 4 rfl) ?_
              refine lv_isub hx hb dX8_doPour_105 ?_
              refine lv_t2 (show b = nI (bx b) from q_4.1) ?_
              refine c_wcVv (ws' := [(am, .inr (12, [.ref aS, .ref aBf, .ref aAs, .ref aSv, .int iS, .ref aPa, .int (nI K), .int th, .ref aOu, .int (nI OM), .ref aTx, .int (nI LN), .int (nI PO), .int iw, .int ea, .int fa, .ref aCo, .int (nI CM)])), (aS, .inl (cy 2, 89, .inl (encT N (upd v (bx b) ((v (bx b)) - q)) h pl me M db dl du dq dw E ek eb el t1 t2 t3 t4 t5 t6)))]) S9 (c_X8_sets_v l G cy am aS aBf aAs aSv aPa aOu aTx aCo K OM LN PO CM iS th iw ea fa N v h pl me M db dl du dq dw E ek eb el t1 t2 t3 t4 t5 t6 (bx b) ((v (bx b)) - q) (by omega)) (cwV 3 hts gX8_doPour_X8_sets rfl rfl rfl (by decide +kernel) ⟨Nat.le_of_ble_eq_true rfl, Nat.le_of_ble_eq_true rfl⟩) PB.blind (va_recv hK.1 hP (ci := 12) (q0 := 0) rfl rfl) (PB.at hK (m_Ppart hP [0, 1] rfl)) hP hD hS [0, 1] rfl rfl m_f2 rfl rfl hl.1 rfl (Nat.le_of_ble_eq_true rfl) ⟨Nat.zero_le _, Nat.zero_le _⟩ dX8_doPour_106 (fun H locs hP hD hS => ?_)
              refine lv_aload_n hx hb dX8_doPour_109 rfl (lv_at hl 1 rfl) ?_
              refine lv_iload_n hx hb dX8_doPour_110 rfl (lv_at hl 2 rfl) ?_
              refine lv_iconst (v := 1) hx hb dX8_doPour_111 (by decide) ?_
              refine lv_aload_n hx hb dX8_doPour_112 rfl (lv_at hl 1 rfl) ?_
              refine lv_iload_n hx hb dX8_doPour_113 rfl (lv_at hl 2 rfl) ?_
              refine lv_iconst (v := 1) hx hb dX8_doPour_114 (by decide) ?_
              refine lv_t1 (show b = nI (bx b) from q_4.1) ?_
              refine c_roVi S9 (c_X8_of_h l G cy am aS aBf aAs aSv aPa aOu aTx aCo K OM LN PO CM iS th iw ea fa N (upd v (bx b) ((v (bx b)) - q)) h pl me M db dl du dq dw E ek eb el t1 t2 t3 t4 t5 t6 (bx b) (by omega)) (cwV 2 hts gX8_doPour_X8_of rfl rfl rfl (by decide +kernel) ⟨Nat.le_of_ble_eq_true rfl, Nat.le_of_ble_eq_true rfl⟩) PB.blind (va_recv hK.1 hP (ci := 12) (q0 := 0) rfl rfl) (PB.at hK (m_Ppart hP [0, 1] rfl)) rfl hl.1 rfl (Nat.le_of_ble_eq_true rfl) ⟨Nat.zero_le _, Nat.zero_le _⟩ dX8_doPour_115 ?_
              refine lv_iload hx hb dX8_doPour_118 (lv_at hl 0 rfl) ?_
              refine lv_isub hx hb dX8_doPour_120 ?_
              refine lv_t2 (show b = nI (bx b) from q_4.1) ?_
              refine c_wcVv (ws' := [(am, .inr (12, [.ref aS, .ref aBf, .ref aAs, .ref aSv, .int iS, .ref aPa, .int (nI K), .int th, .ref aOu, .int (nI OM), .ref aTx, .int (nI LN), .int (nI PO), .int iw, .int ea, .int fa, .ref aCo, .int (nI CM)])), (aS, .inl (cy 2, 89, .inl (encT N (upd v (bx b) ((v (bx b)) - q)) (upd h (bx b) ((h (bx b)) - (((h (bx b)) * q) / (v (bx b))))) pl me M db dl du dq dw E ek eb el t1 t2 t3 t4 t5 t6)))]) S9 (c_X8_sets_h l G cy am aS aBf aAs aSv aPa aOu aTx aCo K OM LN PO CM iS th iw ea fa N (upd v (bx b) ((v (bx b)) - q)) h pl me M db dl du dq dw E ek eb el t1 t2 t3 t4 t5 t6 (bx b) ((h (bx b)) - (((h (bx b)) * q) / (v (bx b)))) (by omega)) (cwV 3 hts gX8_doPour_X8_sets rfl rfl rfl (by decide +kernel) ⟨Nat.le_of_ble_eq_true rfl, Nat.le_of_ble_eq_true rfl⟩) PB.blind (va_recv hK.1 hP (ci := 12) (q0 := 0) rfl rfl) (PB.at hK (m_Ppart hP [0, 1] rfl)) hP hD hS [0, 1] rfl rfl m_f2 rfl rfl hl.1 rfl (Nat.le_of_ble_eq_true rfl) ⟨Nat.zero_le _, Nat.zero_le _⟩ dX8_doPour_121 (fun H locs hP hD hS => ?_)
              refine lv_aload_n hx hb dX8_doPour_124 rfl (lv_at hl 1 rfl) ?_
              refine lv_iload_n hx hb dX8_doPour_125 rfl (lv_at hl 3 rfl) ?_
              refine lv_iconst (v := 0) hx hb dX8_doPour_126 (by decide) ?_
              refine lv_aload_n hx hb dX8_doPour_127 rfl (lv_at hl 1 rfl) ?_
              refine lv_iload_n hx hb dX8_doPour_128 rfl (lv_at hl 3 rfl) ?_
              refine lv_iconst (v := 0) hx hb dX8_doPour_129 (by decide) ?_
              refine lv_t1 (show t = nI (bx t) from q_7.1) ?_
              refine c_roVi S9 (c_X8_of_v l G cy am aS aBf aAs aSv aPa aOu aTx aCo K OM LN PO CM iS th iw ea fa N (upd v (bx b) ((v (bx b)) - q)) (upd h (bx b) ((h (bx b)) - (((h (bx b)) * q) / (v (bx b))))) pl me M db dl du dq dw E ek eb el t1 t2 t3 t4 t5 t6 (bx t) (by omega)) (cwV 2 hts gX8_doPour_X8_of rfl rfl rfl (by decide +kernel) ⟨Nat.le_of_ble_eq_true rfl, Nat.le_of_ble_eq_true rfl⟩) PB.blind (va_recv hK.1 hP (ci := 12) (q0 := 0) rfl rfl) (PB.at hK (m_Ppart hP [0, 1] rfl)) rfl hl.1 rfl (Nat.le_of_ble_eq_true rfl) ⟨Nat.zero_le _, Nat.zero_le _⟩ dX8_doPour_130 ?_
              refine lv_iload_n hx hb dX8_doPour_133 rfl (lv_at hl 4 rfl) ?_
              refine lv_iadd hx hb dX8_doPour_134 ?_
              refine lv_t2 (show t = nI (bx t) from q_7.1) ?_
              refine c_wcVv (ws' := [(am, .inr (12, [.ref aS, .ref aBf, .ref aAs, .ref aSv, .int iS, .ref aPa, .int (nI K), .int th, .ref aOu, .int (nI OM), .ref aTx, .int (nI LN), .int (nI PO), .int iw, .int ea, .int fa, .ref aCo, .int (nI CM)])), (aS, .inl (cy 2, 89, .inl (encT N (upd (upd v (bx b) ((v (bx b)) - q)) (bx t) (((upd v (bx b) ((v (bx b)) - q)) (bx t)) + q)) (upd h (bx b) ((h (bx b)) - (((h (bx b)) * q) / (v (bx b))))) pl me M db dl du dq dw E ek eb el t1 t2 t3 t4 t5 t6)))]) S9 (c_X8_sets_v l G cy am aS aBf aAs aSv aPa aOu aTx aCo K OM LN PO CM iS th iw ea fa N (upd v (bx b) ((v (bx b)) - q)) (upd h (bx b) ((h (bx b)) - (((h (bx b)) * q) / (v (bx b))))) pl me M db dl du dq dw E ek eb el t1 t2 t3 t4 t5 t6 (bx t) (((upd v (bx b) ((v (bx b)) - q)) (bx t)) + q) (by omega)) (cwV 3 hts gX8_doPour_X8_sets rfl rfl rfl (by decide +kernel) ⟨Nat.le_of_ble_eq_true rfl, Nat.le_of_ble_eq_true rfl⟩) PB.blind (va_recv hK.1 hP (ci := 12) (q0 := 0) rfl rfl) (PB.at hK (m_Ppart hP [0, 1] rfl)) hP hD hS [0, 1] rfl rfl m_f2 rfl rfl hl.1 rfl (Nat.le_of_ble_eq_true rfl) ⟨Nat.zero_le _, Nat.zero_le _⟩ dX8_doPour_135 (fun H locs hP hD hS => ?_)
              refine lv_aload_n hx hb dX8_doPour_138 rfl (lv_at hl 1 rfl) ?_
              refine lv_iload_n hx hb dX8_doPour_139 rfl (lv_at hl 3 rfl) ?_
              refine lv_iconst (v := 1) hx hb dX8_doPour_140 (by decide) ?_
              refine lv_aload_n hx hb dX8_doPour_141 rfl (lv_at hl 1 rfl) ?_
              refine lv_iload_n hx hb dX8_doPour_142 rfl (lv_at hl 3 rfl) ?_
              refine lv_iconst (v := 1) hx hb dX8_doPour_143 (by decide) ?_
              refine lv_t1 (show t = nI (bx t) from q_7.1) ?_
              refine c_roVi S9 (c_X8_of_h l G cy am aS aBf aAs aSv aPa aOu aTx aCo K OM LN PO CM iS th iw ea fa N (upd (upd v (bx b) ((v (bx b)) - q)) (bx t) (((upd v (bx b) ((v (bx b)) - q)) (bx t)) + q)) (upd h (bx b) ((h (bx b)) - (((h (bx b)) * q) / (v (bx b))))) pl me M db dl du dq dw E ek eb el t1 t2 t3 t4 t5 t6 (bx t) (by omega)) (cwV 2 hts gX8_doPour_X8_of rfl rfl rfl (by decide +kernel) ⟨Nat.le_of_ble_eq_true rfl, Nat.le_of_ble_eq_true rfl⟩) PB.blind (va_recv hK.1 hP (ci := 12) (q0 := 0) rfl rfl) (PB.at hK (m_Ppart hP [0, 1] rfl)) rfl hl.1 rfl (Nat.le_of_ble_eq_true rfl) ⟨Nat.zero_le _, Nat.zero_le _⟩ dX8_doPour_144 ?_
              refine lv_iload hx hb dX8_doPour_147 (lv_at hl 0 rfl) ?_
              refine lv_iadd hx hb dX8_doPour_149 ?_
              refine lv_t2 (show t = nI (bx t) from q_7.1) ?_
              refine c_wcVv (ws' := [(am, .inr (12, [.ref aS, .ref aBf, .ref aAs, .ref aSv, .int iS, .ref aPa, .int (nI K), .int th, .ref aOu, .int (nI OM), .ref aTx, .int (nI LN), .int (nI PO), .int iw, .int ea, .int fa, .ref aCo, .int (nI CM)])), (aS, .inl (cy 2, 89, .inl (encT N (upd (upd v (bx b) ((v (bx b)) - q)) (bx t) (((upd v (bx b) ((v (bx b)) - q)) (bx t)) + q)) (upd (upd h (bx b) ((h (bx b)) - (((h (bx b)) * q) / (v (bx b))))) (bx t) (((upd h (bx b) ((h (bx b)) - (((h (bx b)) * q) / (v (bx b))))) (bx t)) + (((h (bx b)) * q) / (v (bx b))))) pl me M db dl du dq dw E ek eb el t1 t2 t3 t4 t5 t6)))]) S9 (c_X8_sets_h l G cy am aS aBf aAs aSv aPa aOu aTx aCo K OM LN PO CM iS th iw ea fa N (upd (upd v (bx b) ((v (bx b)) - q)) (bx t) (((upd v (bx b) ((v (bx b)) - q)) (bx t)) + q)) (upd h (bx b) ((h (bx b)) - (((h (bx b)) * q) / (v (bx b))))) pl me M db dl du dq dw E ek eb el t1 t2 t3 t4 t5 t6 (bx t) (((upd h (bx b) ((h (bx b)) - (((h (bx b)) * q) / (v (bx b))))) (bx t)) + (((h (bx b)) * q) / (v (bx b)))) (by omega)) (cwV 3 hts gX8_doPour_X8_sets rfl rfl rfl (by decide +kernel) ⟨Nat.le_of_ble_eq_true rfl, Nat.le_of_ble_eq_true rfl⟩) PB.blind (va_recv hK.1 hP (ci := 12) (q0 := 0) rfl rfl) (PB.at hK (m_Ppart hP [0, 1] rfl)) hP hD hS [0, 1] rfl rfl m_f2 rfl rfl hl.1 rfl (Nat.le_of_ble_eq_true rfl) ⟨Nat.zero_le _, Nat.zero_le _⟩ dX8_doPour_150 (fun H locs hP hD hS => ?_)
              refine lv_aload_n hx hb dX8_doPour_153 rfl (lv_at hl 1 rfl) ?_
              refine lv_bipush (v := 112) hx hb dX8_doPour_154 (by decide) ?_
              refine lv_iload_n hx hb dX8_doPour_156 rfl (lv_at hl 2 rfl) ?_
              refine lv_iload_n hx hb dX8_doPour_157 rfl (lv_at hl 4 rfl) ?_
              refine lv_t0 (show (q : Int32) = litq q from (litq_ne hq9).symm) ?_
              refine c_wcVv (ws' := [(am, .inr (12, [.ref aS, .ref aBf, .ref aAs, .ref aSv, .int iS, .ref aPa, .int (nI K), .int th, .ref aOu, .int (nI OM), .ref aTx, .int (nI LN), .int (nI PO), .int iw, .int ea, .int fa, .ref aCo, .int (nI CM)])), (aS, .inl (cy 2, 89, .inl (encT N (upd (upd v (bx b) ((v (bx b)) - q)) (bx t) (((upd v (bx b) ((v (bx b)) - q)) (bx t)) + q)) (upd (upd h (bx b) ((h (bx b)) - (((h (bx b)) * q) / (v (bx b))))) (bx t) (((upd h (bx b) ((h (bx b)) - (((h (bx b)) * q) / (v (bx b))))) (bx t)) + (((h (bx b)) * q) / (v (bx b))))) pl me M db dl du dq dw (evc E) (psh ek 112) (psh eb b) (psh el q) t1 t2 t3 t4 t5 t6)))]) S9 (c_X8_happens l G cy am aS aBf aAs aSv aPa aOu aTx aCo K OM LN PO CM iS th iw ea fa N (upd (upd v (bx b) ((v (bx b)) - q)) (bx t) (((upd v (bx b) ((v (bx b)) - q)) (bx t)) + q)) (upd (upd h (bx b) ((h (bx b)) - (((h (bx b)) * q) / (v (bx b))))) (bx t) (((upd h (bx b) ((h (bx b)) - (((h (bx b)) * q) / (v (bx b))))) (bx t)) + (((h (bx b)) * q) / (v (bx b))))) pl me M db dl du dq dw E ek eb el t1 t2 t3 t4 t5 t6 112 b q hE) (cwV 3 hts gX8_doPour_X8_happens rfl rfl rfl (by decide +kernel) ⟨Nat.le_of_ble_eq_true rfl, Nat.le_of_ble_eq_true rfl⟩) PB.blind (va_recv hK.1 hP (ci := 12) (q0 := 0) rfl rfl) (PB.at hK (m_Ppart hP [0, 1] rfl)) hP hD hS [0, 1] rfl rfl m_f2 rfl rfl hl.1 rfl (Nat.le_of_ble_eq_true rfl) ⟨Nat.zero_le _, Nat.zero_le _⟩ dX8_doPour_158 (fun H locs hP hD hS => ?_)
              refine lv_aload_n hx hb dX8_doPour_161 rfl (lv_at hl 1 rfl) ?_
              refine c_wcVv (ws' := [(am, .inr (12, [.ref aS, .ref aBf, .ref aAs, .ref aSv, .int iS, .ref aPa, .int (nI K), .int th, .ref aOu, .int (nI OM), .ref aTx, .int (nI LN), .int (nI PO), .int iw, .int ea, .int fa, .ref aCo, .int (nI CM)])), (aS, .inl (cy 2, 89, .inl (encT N (upd (upd v (bx b) ((v (bx b)) - q)) (bx t) (((upd v (bx b) ((v (bx b)) - q)) (bx t)) + q)) (upd (upd h (bx b) ((h (bx b)) - (((h (bx b)) * q) / (v (bx b))))) (bx t) (((upd h (bx b) ((h (bx b)) - (((h (bx b)) * q) / (v (bx b))))) (bx t)) + (((h (bx b)) * q) / (v (bx b))))) pl me M db dl du (obsQ (plz (upd (upd v (bx b) ((v (bx b)) - q)) (bx t) (((upd v (bx b) ((v (bx b)) - q)) (bx t)) + q)) (upd (upd h (bx b) ((h (bx b)) - (((h (bx b)) * q) / (v (bx b))))) (bx t) (((upd h (bx b) ((h (bx b)) - (((h (bx b)) * q) / (v (bx b))))) (bx t)) + (((h (bx b)) * q) / (v (bx b))))) db dl du) dq dw M) (obsW (plz (upd (upd v (bx b) ((v (bx b)) - q)) (bx t) (((upd v (bx b) ((v (bx b)) - q)) (bx t)) + q)) (upd (upd h (bx b) ((h (bx b)) - (((h (bx b)) * q) / (v (bx b))))) (bx t) (((upd h (bx b) ((h (bx b)) - (((h (bx b)) * q) / (v (bx b))))) (bx t)) + (((h (bx b)) * q) / (v (bx b))))) db dl du) dw M) (evc E) (psh ek 112) (psh eb b) (psh el q) t1 t2 t3 t4 t5 t6)))]) S9 (c_X8_looks l G cy am aS aBf aAs aSv aPa aOu aTx aCo K OM LN PO CM iS th iw ea fa N (upd (upd v (bx b) ((v (bx b)) - q)) (bx t) (((upd v (bx b) ((v (bx b)) - q)) (bx t)) + q)) (upd (upd h (bx b) ((h (bx b)) - (((h (bx b)) * q) / (v (bx b))))) (bx t) (((upd h (bx b) ((h (bx b)) - (((h (bx b)) * q) / (v (bx b))))) (bx t)) + (((h (bx b)) * q) / (v (bx b))))) pl me M db dl du dq dw (evc E) (psh ek 112) (psh eb b) (psh el q) t1 t2 t3 t4 t5 t6 hM hdd hw) (cwV 0 hts gX8_doPour_X8_looks rfl rfl rfl (by decide +kernel) ⟨Nat.le_of_ble_eq_true rfl, Nat.le_of_ble_eq_true rfl⟩) PB.blind (va_recv hK.1 hP (ci := 12) (q0 := 0) rfl rfl) (PB.at hK (m_Ppart hP [0, 1] rfl)) hP hD hS [0, 1] rfl rfl m_f2 rfl rfl hl.1 rfl (Nat.le_of_ble_eq_true rfl) ⟨Nat.zero_le _, Nat.zero_le _⟩ dX8_doPour_162 (fun H locs hP hD hS => ?_)
              refine lv_iload hx hb dX8_doPour_165 (lv_at hl 0 rfl) ?_
              have e_15 : encT N (upd (upd v (bx b) (v (bx b) - q)) (bx t) (upd v (bx b) (v (bx b) - q) (bx t) + q)) (upd (upd h (bx b) (h (bx b) - h (bx b) * q / v (bx b))) (bx t) (upd h (bx b) (h (bx b) - h (bx b) * q / v (bx b)) (bx t) + h (bx b) * q / v (bx b))) pl me M db dl du (obsQ (plz (upd (upd v (bx b) (v (bx b) - q)) (bx t) (upd v (bx b) (v (bx b) - q) (bx t) + q)) (upd (upd h (bx b) (h (bx b) - h (bx b) * q / v (bx b))) (bx t) (upd h (bx b) (h (bx b) - h (bx b) * q / v (bx b)) (bx t) + h (bx b) * q / v (bx b))) db dl du) dq dw M) (obsW (plz (upd (upd v (bx b) (v (bx b) - q)) (bx t) (upd v (bx b) (v (bx b) - q) (bx t) + q)) (upd (upd h (bx b) (h (bx b) - h (bx b) * q / v (bx b))) (bx t) (upd h (bx b) (h (bx b) - h (bx b) * q / v (bx b)) (bx t) + h (bx b) * q / v (bx b))) db dl du) dw M) (evc E) (psh ek 112) (psh eb b) (psh el q) t1 t2 t3 t4 t5 t6 = encT N (upd (upd v (bx b) ((v (bx b)) - q)) (bx t) (((upd v (bx b) ((v (bx b)) - q)) (bx t)) + q)) (upd (upd h (bx b) ((h (bx b)) - (((h (bx b)) * q) / (v (bx b))))) (bx t) (((upd h (bx b) ((h (bx b)) - (((h (bx b)) * q) / (v (bx b))))) (bx t)) + (((h (bx b)) * q) / (v (bx b))))) pl me M db dl du (obsQ (plz (upd (upd v (bx b) ((v (bx b)) - q)) (bx t) (((upd v (bx b) ((v (bx b)) - q)) (bx t)) + q)) (upd (upd h (bx b) ((h (bx b)) - (((h (bx b)) * q) / (v (bx b))))) (bx t) (((upd h (bx b) ((h (bx b)) - (((h (bx b)) * q) / (v (bx b))))) (bx t)) + (((h (bx b)) * q) / (v (bx b))))) db dl du) dq dw M) (obsW (plz (upd (upd v (bx b) ((v (bx b)) - q)) (bx t) (((upd v (bx b) ((v (bx b)) - q)) (bx t)) + q)) (upd (upd h (bx b) ((h (bx b)) - (((h (bx b)) * q) / (v (bx b))))) (bx t) (((upd h (bx b) ((h (bx b)) - (((h (bx b)) * q) / (v (bx b))))) (bx t)) + (((h (bx b)) * q) / (v (bx b))))) db dl du) dw M) (evc E) (psh ek 112) (psh eb b) (psh el q) t1 t2 t3 t4 t5 t6 := rfl
              exact wc_iret hx hb hr hlocks (by rw [e_15]; exact hP) hS rfl dX8_doPour_167
            · have c_14' : 100 < ((v (bx t)) + q) := Int32.not_le.mp c_14
              exact absurd hF (by simp [traF, b_3, b_6, c_8, b_12, c_13', c_13, c_14', c_14, k_10])
          · have c_13' : (v (bx b)) < q := Int32.not_le.mp c_13
            exact absurd hF (by simp [traF, b_3, b_6, c_8, b_12, c_13', c_13, k_10])
        · have b_16 : ¬ (inR q 1 99 = true) := m_ite0.mp c_11
          exact absurd hF (by simp [traF, b_3, b_6, c_8, b_16, k_10])
    · have b_17 : ¬ (inI t (nI N) = true) := m_ite0.mp c_5
      exact absurd hF (by simp [traF, b_3, b_17])

set_option maxRecDepth 100000 in
set_option maxHeartbeats 1000000 in
theorem c_X8_doPour_no (l : Launch) (G : va_G) (cy : Nat → ClassId) (am aS aBf aAs aSv aPa aOu aTx aCo K OM LN PO CM : Nat) (iS th iw ea fa : Int32) (N : Nat) (v h pl me : Nat → Int32) (M : Nat) (db dl du dq dw : Nat → Int32) (E : Nat) (ek eb el : Nat → Int32) (t1 t2 t3 t4 t5 t6 b t q : Int32) (hN : N ≤ 5) (hM : M ≤ 6) (hE : E ≤ 10) (hdd : ∀ j, j < M → dOK (db j)) (hw : ∀ j, j < 6 → dw j = 0 ∨ dw j = 1) (hF : ¬ traF N v b t q = 0) : WC l yX8_doPour wsX8_doPour { frames := 2, cells := 0, slots := 0, locals := 43 } G (PB G cy [(am, .inr (12, [.ref aS, .ref aBf, .ref aAs, .ref aSv, .int iS, .ref aPa, .int (nI K), .int th, .ref aOu, .int (nI OM), .ref aTx, .int (nI LN), .int (nI PO), .int iw, .int ea, .int fa, .ref aCo, .int (nI CM)])), (aS, .inl (cy 2, 89, .inl (encT N v h pl me M db dl du dq dw E ek eb el t1 t2 t3 t4 t5 t6)))]) [.ref am, .int b, .int t, .int q] [(am, .inr (12, [.ref aS, .ref aBf, .ref aAs, .ref aSv, .int iS, .ref aPa, .int (nI K), .int th, .ref aOu, .int (nI OM), .ref aTx, .int (nI LN), .int (nI PO), .int iw, .int ea, .int fa, .ref aCo, .int (nI CM)])), (aS, .inl (cy 2, 89, .inl (encT N v h pl me M db dl du dq dw E ek eb el t1 t2 t3 t4 t5 t6)))] [(am, .inr (12, [.ref aS, .ref aBf, .ref aAs, .ref aSv, .int iS, .ref aPa, .int (nI K), .int (mcP (traF N v b t q)), .ref aOu, .int (nI OM), .ref aTx, .int (nI LN), .int (nI PO), .int iw, .int ea, .int fa, .ref aCo, .int (nI CM)])), (aS, .inl (cy 2, 89, .inl (encT N v h pl me M db dl du dq dw E ek eb el t1 t2 t3 t4 t5 t6)))] (some (.int 0)) := by
  refine WC.ofW (cc := cX8_doPour) (maxL := 5) (ret := (some .int)) (by decide) rfl (Nat.le_of_ble_eq_true rfl) ?_
  intro p e s m below meth c S9 hr hlocks hPB hD hS ls hl
  obtain ⟨hx, hb, hml, hown, hts⟩ := id S9
  obtain ⟨hP, hK⟩ := hPB
  have hl : lv_has ls 5 [(0, .ref am), (1, .int b), (2, .int t), (3, .int q)] := hl
  refine lv_aload_n hx hb dX8_doPour_0 rfl (lv_at hl 0 rfl) ?_
  refine lv_iload_n hx hb dX8_doPour_1 rfl (lv_at hl 1 rfl) ?_
  refine c_roVi S9 (c_X8_isBath l G cy am aS aBf aAs aSv aPa aOu aTx aCo K OM LN PO CM iS th iw ea fa N v h pl me M db dl du dq dw E ek eb el t1 t2 t3 t4 t5 t6 b (by omega)) (cwV 1 hts gX8_doPour_X8_isBath rfl rfl rfl (by decide +kernel) ⟨Nat.le_of_ble_eq_true rfl, Nat.le_of_ble_eq_true rfl⟩) PB.blind (va_recv hK.1 hP (ci := 12) (q0 := 0) rfl rfl) (PB.at hK (m_Ppart hP [0, 1] rfl)) rfl hl.1 rfl (Nat.le_of_ble_eq_true rfl) ⟨Nat.zero_le _, Nat.zero_le _⟩ dX8_doPour_2 ?_
  refine lv_if_eq (tgt := 16) hx hb dX8_doPour_5 (by decide) (fun c_1 => ?_) (fun c_1 => ?_)
  · have b_2 : ¬ (inI b (nI N) = true) := m_ite0.mp c_1
    refine lv_aload_n hx hb dX8_doPour_16 rfl (lv_at hl 0 rfl) ?_
    refine lv_iconst (v := 1) hx hb dX8_doPour_17 (by decide) ?_
    refine c_wcVi (ws' := [(am, .inr (12, [.ref aS, .ref aBf, .ref aAs, .ref aSv, .int iS, .ref aPa, .int (nI K), .int 1, .ref aOu, .int (nI OM), .ref aTx, .int (nI LN), .int (nI PO), .int iw, .int ea, .int fa, .ref aCo, .int (nI CM)])), (aS, .inl (cy 2, 89, .inl (encT N v h pl me M db dl du dq dw E ek eb el t1 t2 t3 t4 t5 t6)))]) S9 (c_X8_fails l G cy am aS aBf aAs aSv aPa aOu aTx aCo K OM LN PO CM iS th iw ea fa N v h pl me M db dl du dq dw E ek eb el t1 t2 t3 t4 t5 t6 1) (cwV 1 hts gX8_doPour_X8_fails rfl rfl rfl (by decide +kernel) ⟨Nat.le_of_ble_eq_true rfl, Nat.le_of_ble_eq_true rfl⟩) PB.blind (va_recv hK.1 hP (ci := 12) (q0 := 0) rfl rfl) (PB.at hK (m_Ppart hP [0, 1] rfl)) hP hD hS [0, 1] rfl rfl m_f2 rfl rfl hl.1 rfl (Nat.le_of_ble_eq_true rfl) ⟨Nat.zero_le _, Nat.zero_le _⟩ dX8_doPour_18 (fun H locs hP hD hS => ?_)
    have e_3 : mcP (traF N v b t q) = 1 := (by simp [traF, mcP, b_2])
    exact wc_iret hx hb hr hlocks (by rw [e_3]; exact hP) hS rfl dX8_doPour_21
  · have b_4 : inI b (nI N) = true := m_ite1.mp c_1
    have q_5 := m_ixp (by omega) b_4
    have q_5' := q_5.2
    refine lv_aload_n hx hb dX8_doPour_8 rfl (lv_at hl 0 rfl) ?_
    refine lv_iload_n hx hb dX8_doPour_9 rfl (lv_at hl 2 rfl) ?_
    refine c_roVi S9 (c_X8_isBath l G cy am aS aBf aAs aSv aPa aOu aTx aCo K OM LN PO CM iS th iw ea fa N v h pl me M db dl du dq dw E ek eb el t1 t2 t3 t4 t5 t6 t (by omega)) (cwV 1 hts gX8_doPour_X8_isBath rfl rfl rfl (by decide +kernel) ⟨Nat.le_of_ble_eq_true rfl, Nat.le_of_ble_eq_true rfl⟩) PB.blind (va_recv hK.1 hP (ci := 12) (q0 := 0) rfl rfl) (PB.at hK (m_Ppart hP [0, 1] rfl)) rfl hl.1 rfl (Nat.le_of_ble_eq_true rfl) ⟨Nat.zero_le _, Nat.zero_le _⟩ dX8_doPour_10 ?_
    refine lv_if_ne (tgt := 22) hx hb dX8_doPour_13 (by decide) (fun c_6 => ?_) (fun c_6 => ?_)
    · have b_7 : inI t (nI N) = true := m_ite1.mp c_6
      have q_8 := m_ixp (by omega) b_7
      have q_8' := q_8.2
      refine lv_iload_n hx hb dX8_doPour_22 rfl (lv_at hl 1 rfl) ?_
      refine lv_iload_n hx hb dX8_doPour_23 rfl (lv_at hl 2 rfl) ?_
      refine lv_icmp_eq (tgt := 37) hx hb dX8_doPour_24 (by decide) (fun c_9 => ?_) (fun c_9 => ?_)
      · have k_10 : bx b = bx t := (m_eqN (a := bx b) (b := bx t) q_5.1 q_8.1 (by omega) (by omega)).mp c_9
        refine lv_aload_n hx hb dX8_doPour_37 rfl (lv_at hl 0 rfl) ?_
        refine lv_iconst (v := 2) hx hb dX8_doPour_38 (by decide) ?_
        refine c_wcVi (ws' := [(am, .inr (12, [.ref aS, .ref aBf, .ref aAs, .ref aSv, .int iS, .ref aPa, .int (nI K), .int 2, .ref aOu, .int (nI OM), .ref aTx, .int (nI LN), .int (nI PO), .int iw, .int ea, .int fa, .ref aCo, .int (nI CM)])), (aS, .inl (cy 2, 89, .inl (encT N v h pl me M db dl du dq dw E ek eb el t1 t2 t3 t4 t5 t6)))]) S9 (c_X8_fails l G cy am aS aBf aAs aSv aPa aOu aTx aCo K OM LN PO CM iS th iw ea fa N v h pl me M db dl du dq dw E ek eb el t1 t2 t3 t4 t5 t6 2) (cwV 1 hts gX8_doPour_X8_fails rfl rfl rfl (by decide +kernel) ⟨Nat.le_of_ble_eq_true rfl, Nat.le_of_ble_eq_true rfl⟩) PB.blind (va_recv hK.1 hP (ci := 12) (q0 := 0) rfl rfl) (PB.at hK (m_Ppart hP [0, 1] rfl)) hP hD hS [0, 1] rfl rfl m_f2 rfl rfl hl.1 rfl (Nat.le_of_ble_eq_true rfl) ⟨Nat.zero_le _, Nat.zero_le _⟩ dX8_doPour_39 (fun H locs hP hD hS => ?_)
        have e_11 : mcP (traF N v b t q) = 2 := (by simp [traF, mcP, b_4, b_7, c_9, k_10])
        exact wc_iret hx hb hr hlocks (by rw [e_11]; exact hP) hS rfl dX8_doPour_42
      · have k_12 : ¬ (bx b = bx t) := fun z => c_9 ((m_eqN (a := bx b) (b := bx t) q_5.1 q_8.1 (by omega) (by omega)).mpr z)
        refine lv_iload_n hx hb dX8_doPour_27 rfl (lv_at hl 3 rfl) ?_
        refine lv_iconst (v := 1) hx hb dX8_doPour_28 (by decide) ?_
        refine lv_bipush (v := 99) hx hb dX8_doPour_29 (by decide) ?_
        refine c_roSi S9 (c_X8_in l G cy q 1 99) (va_cwS 3 hts gX8_doPour_X8_in rfl rfl rfl (by decide +kernel) ⟨Nat.le_of_ble_eq_true rfl, Nat.le_of_ble_eq_true rfl⟩) PB.blind (PB.at hK (m_Ppart hP [] rfl)) rfl hl.1 rfl (Nat.le_of_ble_eq_true rfl) ⟨Nat.zero_le _, Nat.zero_le _⟩ dX8_doPour_31 ?_
        refine lv_if_ne (tgt := 43) hx hb dX8_doPour_34 (by decide) (fun c_13 => ?_) (fun c_13 => ?_)
        · have b_14 : inR q 1 99 = true := m_ite1.mp c_13
          refine lv_aload_n hx hb dX8_doPour_43 rfl (lv_at hl 0 rfl) ?_
          refine lv_iload_n hx hb dX8_doPour_44 rfl (lv_at hl 1 rfl) ?_
          refine lv_iconst (v := 0) hx hb dX8_doPour_45 (by decide) ?_
          refine lv_t1 (show b = nI (bx b) from q_5.1) ?_
          refine c_roVi S9 (c_X8_of_v l G cy am aS aBf aAs aSv aPa aOu aTx aCo K OM LN PO CM iS th iw ea fa N v h pl me M db dl du dq dw E ek eb el t1 t2 t3 t4 t5 t6 (bx b) (by omega)) (cwV 2 hts gX8_doPour_X8_of rfl rfl rfl (by decide +kernel) ⟨Nat.le_of_ble_eq_true rfl, Nat.le_of_ble_eq_true rfl⟩) PB.blind (va_recv hK.1 hP (ci := 12) (q0 := 0) rfl rfl) (PB.at hK (m_Ppart hP [0, 1] rfl)) rfl hl.1 rfl (Nat.le_of_ble_eq_true rfl) ⟨Nat.zero_le _, Nat.zero_le _⟩ dX8_doPour_46 ?_
          refine lv_iload_n hx hb dX8_doPour_49 rfl (lv_at hl 3 rfl) ?_
          refine lv_icmp_ge (tgt := 59) hx hb dX8_doPour_50 (by decide) (fun c_15 => ?_) (fun c_15 => ?_)
          · have c_15' : ¬ (v (bx b)) < q := Int32.not_lt.mpr c_15
            refine lv_aload_n hx hb dX8_doPour_59 rfl (lv_at hl 0 rfl) ?_
            refine lv_iload_n hx hb dX8_doPour_60 rfl (lv_at hl 2 rfl) ?_
            refine lv_iconst (v := 0) hx hb dX8_doPour_61 (by decide) ?_
            refine lv_t1 (show t = nI (bx t) from q_8.1) ?_
            refine c_roVi S9 (c_X8_of_v l G cy am aS aBf aAs aSv aPa aOu aTx aCo K OM LN PO CM iS th iw ea fa N v h pl me M db dl du dq dw E ek eb el t1 t2 t3 t4 t5 t6 (bx t) (by omega)) (cwV 2 hts gX8_doPour_X8_of rfl rfl rfl (by decide +kernel) ⟨Nat.le_of_ble_eq_true rfl, Nat.le_of_ble_eq_true rfl⟩) PB.blind (va_recv hK.1 hP (ci := 12) (q0 := 0) rfl rfl) (PB.at hK (m_Ppart hP [0, 1] rfl)) rfl hl.1 rfl (Nat.le_of_ble_eq_true rfl) ⟨Nat.zero_le _, Nat.zero_le _⟩ dX8_doPour_62 ?_
            refine lv_iload_n hx hb dX8_doPour_65 rfl (lv_at hl 3 rfl) ?_
            refine lv_iadd hx hb dX8_doPour_66 ?_
            refine lv_bipush (v := 100) hx hb dX8_doPour_67 (by decide) ?_
            refine lv_icmp_le (tgt := 78) hx hb dX8_doPour_69 (by decide) (fun c_16 => ?_) (fun c_16 => ?_)
            · have c_16' : ¬ 100 < ((v (bx t)) + q) := Int32.not_lt.mpr c_16
              exact absurd hF (by simp [traF, b_4, b_7, c_9, b_14, c_15', c_15, c_16', c_16, k_12])
            · have c_16' : 100 < ((v (bx t)) + q) := Int32.not_le.mp c_16
              refine lv_aload_n hx hb dX8_doPour_72 rfl (lv_at hl 0 rfl) ?_
              refine lv_iconst (v := 4) hx hb dX8_doPour_73 (by decide) ?_
              refine c_wcVi (ws' := [(am, .inr (12, [.ref aS, .ref aBf, .ref aAs, .ref aSv, .int iS, .ref aPa, .int (nI K), .int 4, .ref aOu, .int (nI OM), .ref aTx, .int (nI LN), .int (nI PO), .int iw, .int ea, .int fa, .ref aCo, .int (nI CM)])), (aS, .inl (cy 2, 89, .inl (encT N v h pl me M db dl du dq dw E ek eb el t1 t2 t3 t4 t5 t6)))]) S9 (c_X8_fails l G cy am aS aBf aAs aSv aPa aOu aTx aCo K OM LN PO CM iS th iw ea fa N v h pl me M db dl du dq dw E ek eb el t1 t2 t3 t4 t5 t6 4) (cwV 1 hts gX8_doPour_X8_fails rfl rfl rfl (by decide +kernel) ⟨Nat.le_of_ble_eq_true rfl, Nat.le_of_ble_eq_true rfl⟩) PB.blind (va_recv hK.1 hP (ci := 12) (q0 := 0) rfl rfl) (PB.at hK (m_Ppart hP [0, 1] rfl)) hP hD hS [0, 1] rfl rfl m_f2 rfl rfl hl.1 rfl (Nat.le_of_ble_eq_true rfl) ⟨Nat.zero_le _, Nat.zero_le _⟩ dX8_doPour_74 (fun H locs hP hD hS => ?_)
              have e_17 : mcP (traF N v b t q) = 4 := (by simp [traF, mcP, b_4, b_7, c_9, b_14, c_15', c_15, c_16', c_16, k_12])
              exact wc_iret hx hb hr hlocks (by rw [e_17]; exact hP) hS rfl dX8_doPour_77
          · have c_15' : (v (bx b)) < q := Int32.not_le.mp c_15
            refine lv_aload_n hx hb dX8_doPour_53 rfl (lv_at hl 0 rfl) ?_
            refine lv_iconst (v := 3) hx hb dX8_doPour_54 (by decide) ?_
            refine c_wcVi (ws' := [(am, .inr (12, [.ref aS, .ref aBf, .ref aAs, .ref aSv, .int iS, .ref aPa, .int (nI K), .int 3, .ref aOu, .int (nI OM), .ref aTx, .int (nI LN), .int (nI PO), .int iw, .int ea, .int fa, .ref aCo, .int (nI CM)])), (aS, .inl (cy 2, 89, .inl (encT N v h pl me M db dl du dq dw E ek eb el t1 t2 t3 t4 t5 t6)))]) S9 (c_X8_fails l G cy am aS aBf aAs aSv aPa aOu aTx aCo K OM LN PO CM iS th iw ea fa N v h pl me M db dl du dq dw E ek eb el t1 t2 t3 t4 t5 t6 3) (cwV 1 hts gX8_doPour_X8_fails rfl rfl rfl (by decide +kernel) ⟨Nat.le_of_ble_eq_true rfl, Nat.le_of_ble_eq_true rfl⟩) PB.blind (va_recv hK.1 hP (ci := 12) (q0 := 0) rfl rfl) (PB.at hK (m_Ppart hP [0, 1] rfl)) hP hD hS [0, 1] rfl rfl m_f2 rfl rfl hl.1 rfl (Nat.le_of_ble_eq_true rfl) ⟨Nat.zero_le _, Nat.zero_le _⟩ dX8_doPour_55 (fun H locs hP hD hS => ?_)
            have e_18 : mcP (traF N v b t q) = 3 := (by simp [traF, mcP, b_4, b_7, c_9, b_14, c_15', c_15, k_12])
            exact wc_iret hx hb hr hlocks (by rw [e_18]; exact hP) hS rfl dX8_doPour_58
        · have b_19 : ¬ (inR q 1 99 = true) := m_ite0.mp c_13
          refine lv_aload_n hx hb dX8_doPour_37 rfl (lv_at hl 0 rfl) ?_
          refine lv_iconst (v := 2) hx hb dX8_doPour_38 (by decide) ?_
          refine c_wcVi (ws' := [(am, .inr (12, [.ref aS, .ref aBf, .ref aAs, .ref aSv, .int iS, .ref aPa, .int (nI K), .int 2, .ref aOu, .int (nI OM), .ref aTx, .int (nI LN), .int (nI PO), .int iw, .int ea, .int fa, .ref aCo, .int (nI CM)])), (aS, .inl (cy 2, 89, .inl (encT N v h pl me M db dl du dq dw E ek eb el t1 t2 t3 t4 t5 t6)))]) S9 (c_X8_fails l G cy am aS aBf aAs aSv aPa aOu aTx aCo K OM LN PO CM iS th iw ea fa N v h pl me M db dl du dq dw E ek eb el t1 t2 t3 t4 t5 t6 2) (cwV 1 hts gX8_doPour_X8_fails rfl rfl rfl (by decide +kernel) ⟨Nat.le_of_ble_eq_true rfl, Nat.le_of_ble_eq_true rfl⟩) PB.blind (va_recv hK.1 hP (ci := 12) (q0 := 0) rfl rfl) (PB.at hK (m_Ppart hP [0, 1] rfl)) hP hD hS [0, 1] rfl rfl m_f2 rfl rfl hl.1 rfl (Nat.le_of_ble_eq_true rfl) ⟨Nat.zero_le _, Nat.zero_le _⟩ dX8_doPour_39 (fun H locs hP hD hS => ?_)
          have e_20 : mcP (traF N v b t q) = 2 := (by simp [traF, mcP, b_4, b_7, c_9, b_19, k_12])
          exact wc_iret hx hb hr hlocks (by rw [e_20]; exact hP) hS rfl dX8_doPour_42
    · have b_21 : ¬ (inI t (nI N) = true) := m_ite0.mp c_6
      refine lv_aload_n hx hb dX8_doPour_16 rfl (lv_at hl 0 rfl) ?_
      refine lv_iconst (v := 1) hx hb dX8_doPour_17 (by decide) ?_
      refine c_wcVi (ws' := [(am, .inr (12, [.ref aS, .ref aBf, .ref aAs, .ref aSv, .int iS, .ref aPa, .int (nI K), .int 1, .ref aOu, .int (nI OM), .ref aTx, .int (nI LN), .int (nI PO), .int iw, .int ea, .int fa, .ref aCo, .int (nI CM)])), (aS, .inl (cy 2, 89, .inl (encT N v h pl me M db dl du dq dw E ek eb el t1 t2 t3 t4 t5 t6)))]) S9 (c_X8_fails l G cy am aS aBf aAs aSv aPa aOu aTx aCo K OM LN PO CM iS th iw ea fa N v h pl me M db dl du dq dw E ek eb el t1 t2 t3 t4 t5 t6 1) (cwV 1 hts gX8_doPour_X8_fails rfl rfl rfl (by decide +kernel) ⟨Nat.le_of_ble_eq_true rfl, Nat.le_of_ble_eq_true rfl⟩) PB.blind (va_recv hK.1 hP (ci := 12) (q0 := 0) rfl rfl) (PB.at hK (m_Ppart hP [0, 1] rfl)) hP hD hS [0, 1] rfl rfl m_f2 rfl rfl hl.1 rfl (Nat.le_of_ble_eq_true rfl) ⟨Nat.zero_le _, Nat.zero_le _⟩ dX8_doPour_18 (fun H locs hP hD hS => ?_)
      have e_22 : mcP (traF N v b t q) = 1 := (by simp [traF, mcP, b_4, b_21])
      exact wc_iret hx hb hr hlocks (by rw [e_22]; exact hP) hS rfl dX8_doPour_21

set_option maxRecDepth 100000 in
set_option maxHeartbeats 1000000 in
theorem c_X8_doJoin_ok (l : Launch) (G : va_G) (cy : Nat → ClassId) (am aS aBf aAs aSv aPa aOu aTx aCo K OM LN PO CM : Nat) (iS th iw ea fa : Int32) (N : Nat) (v h pl me : Nat → Int32) (M : Nat) (db dl du dq dw : Nat → Int32) (E : Nat) (ek eb el : Nat → Int32) (t1 t2 t3 t4 t5 t6 b : Int32) (hN : N ≤ 5) (hE : E ≤ 10) (hm : ∀ j, j < 5 → me j = 0 ∨ me j = 1) (hF : admF N v h me b = 0) : WC l yX8_doJoin wsX8_doJoin { frames := 2, cells := 0, slots := 0, locals := 49 } G (PB G cy [(am, .inr (12, [.ref aS, .ref aBf, .ref aAs, .ref aSv, .int iS, .ref aPa, .int (nI K), .int th, .ref aOu, .int (nI OM), .ref aTx, .int (nI LN), .int (nI PO), .int iw, .int ea, .int fa, .ref aCo, .int (nI CM)])), (aS, .inl (cy 2, 89, .inl (encT N v h pl me M db dl du dq dw E ek eb el t1 t2 t3 t4 t5 t6)))]) [.ref am, .int b] [(am, .inr (12, [.ref aS, .ref aBf, .ref aAs, .ref aSv, .int iS, .ref aPa, .int (nI K), .int th, .ref aOu, .int (nI OM), .ref aTx, .int (nI LN), .int (nI PO), .int iw, .int ea, .int fa, .ref aCo, .int (nI CM)])), (aS, .inl (cy 2, 89, .inl (encT N v h pl me M db dl du dq dw E ek eb el t1 t2 t3 t4 t5 t6)))] [(am, .inr (12, [.ref aS, .ref aBf, .ref aAs, .ref aSv, .int iS, .ref aPa, .int (nI K), .int th, .ref aOu, .int (nI OM), .ref aTx, .int (nI LN), .int (nI PO), .int iw, .int ea, .int fa, .ref aCo, .int (nI CM)])), (aS, .inl (cy 2, 89, .inl (encT N v h pl (upd me (bx b) 1) M db dl du dq dw (evc E) (psh ek 106) (psh eb b) (psh el (-1)) t1 t2 t3 t4 t5 t6)))] (some (.int (cntM (upd me (bx b) 1) N))) := by
  refine WC.ofW (cc := cX8_doJoin) (maxL := 2) (ret := (some .int)) (by decide) rfl (Nat.le_of_ble_eq_true rfl) ?_
  intro p e s m below meth c S9 hr hlocks hPB hD hS ls hl
  obtain ⟨hx, hb, hml, hown, hts⟩ := id S9
  obtain ⟨hP, hK⟩ := hPB
  have hl : lv_has ls 2 [(0, .ref am), (1, .int b)] := hl
  refine lv_aload_n hx hb dX8_doJoin_0 rfl (lv_at hl 0 rfl) ?_
  refine lv_iload_n hx hb dX8_doJoin_1 rfl (lv_at hl 1 rfl) ?_
  refine c_roVi S9 (c_X8_isBath l G cy am aS aBf aAs aSv aPa aOu aTx aCo K OM LN PO CM iS th iw ea fa N v h pl me M db dl du dq dw E ek eb el t1 t2 t3 t4 t5 t6 b (by omega)) (cwV 1 hts gX8_doJoin_X8_isBath rfl rfl rfl (by decide +kernel) ⟨Nat.le_of_ble_eq_true rfl, Nat.le_of_ble_eq_true rfl⟩) PB.blind (va_recv hK.1 hP (ci := 12) (q0 := 0) rfl rfl) (PB.at hK (m_Ppart hP [0, 1] rfl)) rfl hl.1 rfl (Nat.le_of_ble_eq_true rfl) ⟨Nat.zero_le _, Nat.zero_le _⟩ dX8_doJoin_2 ?_
  refine lv_if_ne (tgt := 14) hx hb dX8_doJoin_5 (by decide) (fun c_1 => ?_) (fun c_1 => ?_)
  · have b_2 : inI b (nI N) = true := m_ite1.mp c_1
    have q_3 := m_ixp (by omega) b_2
    have q_3' := q_3.2
    refine lv_aload_n hx hb dX8_doJoin_14 rfl (lv_at hl 0 rfl) ?_
    refine lv_iload_n hx hb dX8_doJoin_15 rfl (lv_at hl 1 rfl) ?_
    refine lv_iconst (v := 3) hx hb dX8_doJoin_16 (by decide) ?_
    refine lv_t1 (show b = nI (bx b) from q_3.1) ?_
    refine c_roVi S9 (c_X8_of_m l G cy am aS aBf aAs aSv aPa aOu aTx aCo K OM LN PO CM iS th iw ea fa N v h pl me M db dl du dq dw E ek eb el t1 t2 t3 t4 t5 t6 (bx b) (by omega)) (cwV 2 hts gX8_doJoin_X8_of rfl rfl rfl (by decide +kernel) ⟨Nat.le_of_ble_eq_true rfl, Nat.le_of_ble_eq_true rfl⟩) PB.blind (va_recv hK.1 hP (ci := 12) (q0 := 0) rfl rfl) (PB.at hK (m_Ppart hP [0, 1] rfl)) rfl hl.1 rfl (Nat.le_of_ble_eq_true rfl) ⟨Nat.zero_le _, Nat.zero_le _⟩ dX8_doJoin_17 ?_
    refine lv_iconst (v := 1) hx hb dX8_doJoin_20 (by decide) ?_
    refine lv_icmp_ne (tgt := 30) hx hb dX8_doJoin_21 (by decide) (fun c_4 => ?_) (fun c_4 => ?_)
    · have z_5 : (me (bx b)) = 0 := (hm (bx b) (by omega)).resolve_right c_4
      refine lv_aload_n hx hb dX8_doJoin_30 rfl (lv_at hl 0 rfl) ?_
      refine lv_iload_n hx hb dX8_doJoin_31 rfl (lv_at hl 1 rfl) ?_
      refine lv_t0 (show b = nI (bx b) from q_3.1) ?_
      refine c_roVi S9 (c_X8_isWet l G cy am aS aBf aAs aSv aPa aOu aTx aCo K OM LN PO CM iS th iw ea fa N v h pl me M db dl du dq dw E ek eb el t1 t2 t3 t4 t5 t6 (bx b) (by omega)) (cwV 1 hts gX8_doJoin_X8_isWet rfl rfl rfl (by decide +kernel) ⟨Nat.le_of_ble_eq_true rfl, Nat.le_of_ble_eq_true rfl⟩) PB.blind (va_recv hK.1 hP (ci := 12) (q0 := 0) rfl rfl) (PB.at hK (m_Ppart hP [0, 1] rfl)) rfl hl.1 rfl (Nat.le_of_ble_eq_true rfl) ⟨Nat.zero_le _, Nat.zero_le _⟩ dX8_doJoin_32 ?_
      refine lv_if_eq (tgt := 53) hx hb dX8_doJoin_35 (by decide) (fun c_6 => ?_) (fun c_6 => ?_)
      · have b_7 : ¬ (wet v (bx b) = true) := m_ite0.mp c_6
        exact absurd hF (by simp [admF, b_2, z_5, b_7])
      · have b_8 : wet v (bx b) = true := m_ite1.mp c_6
        refine lv_aload_n hx hb dX8_doJoin_38 rfl (lv_at hl 0 rfl) ?_
        refine lv_iload_n hx hb dX8_doJoin_39 rfl (lv_at hl 1 rfl) ?_
        refine lv_t0 (show b = nI (bx b) from q_3.1) ?_
        refine c_roVi S9 (c_X8_degrees l G cy am aS aBf aAs aSv aPa aOu aTx aCo K OM LN PO CM iS th iw ea fa N v h pl me M db dl du dq dw E ek eb el t1 t2 t3 t4 t5 t6 (bx b) (by omega) b_8) (cwV 1 hts gX8_doJoin_X8_degrees rfl rfl rfl (by decide +kernel) ⟨Nat.le_of_ble_eq_true rfl, Nat.le_of_ble_eq_true rfl⟩) PB.blind (va_recv hK.1 hP (ci := 12) (q0 := 0) rfl rfl) (PB.at hK (m_Ppart hP [0, 1] rfl)) rfl hl.1 rfl (Nat.le_of_ble_eq_true rfl) ⟨Nat.zero_le _, Nat.zero_le _⟩ dX8_doJoin_40 ?_
        refine lv_bipush (v := 30) hx hb dX8_doJoin_43 (by decide) ?_
        refine lv_bipush (v := 45) hx hb dX8_doJoin_45 (by decide) ?_
        refine c_roSi S9 (c_X8_in l G cy (rdeg (h (bx b)) (v (bx b))) 30 45) (va_cwS 3 hts gX8_doJoin_X8_in rfl rfl rfl (by decide +kernel) ⟨Nat.le_of_ble_eq_true rfl, Nat.le_of_ble_eq_true rfl⟩) PB.blind (PB.at hK (m_Ppart hP [] rfl)) rfl hl.1 rfl (Nat.le_of_ble_eq_true rfl) ⟨Nat.zero_le _, Nat.zero_le _⟩ dX8_doJoin_47 ?_
        refine lv_if_ne (tgt := 59) hx hb dX8_doJoin_50 (by decide) (fun c_9 => ?_) (fun c_9 => ?_)
        · have b_10 : inR (rdeg (h (bx b)) (v (bx b))) 30 45 = true := m_ite1.mp c_9
          refine lv_aload_n hx hb dX8_doJoin_59 rfl (lv_at hl 0 rfl) ?_
          refine lv_iload_n hx hb dX8_doJoin_60 rfl (lv_at hl 1 rfl) ?_
          refine lv_iconst (v := 3) hx hb dX8_doJoin_61 (by decide) ?_
          refine lv_iconst (v := 1) hx hb dX8_doJoin_62 (by decide) ?_
          refine lv_t2 (show b = nI (bx b) from q_3.1) ?_
          refine c_wcVv (ws' := [(am, .inr (12, [.ref aS, .ref aBf, .ref aAs, .ref aSv, .int iS, .ref aPa, .int (nI K), .int th, .ref aOu, .int (nI OM), .ref aTx, .int (nI LN), .int (nI PO), .int iw, .int ea, .int fa, .ref aCo, .int (nI CM)])), (aS, .inl (cy 2, 89, .inl (encT N v h pl (upd me (bx b) 1) M db dl du dq dw E ek eb el t1 t2 t3 t4 t5 t6)))]) S9 (c_X8_sets_m l G cy am aS aBf aAs aSv aPa aOu aTx aCo K OM LN PO CM iS th iw ea fa N v h pl me M db dl du dq dw E ek eb el t1 t2 t3 t4 t5 t6 (bx b) 1 (by omega)) (cwV 3 hts gX8_doJoin_X8_sets rfl rfl rfl (by decide +kernel) ⟨Nat.le_of_ble_eq_true rfl, Nat.le_of_ble_eq_true rfl⟩) PB.blind (va_recv hK.1 hP (ci := 12) (q0 := 0) rfl rfl) (PB.at hK (m_Ppart hP [0, 1] rfl)) hP hD hS [0, 1] rfl rfl m_f2 rfl rfl hl.1 rfl (Nat.le_of_ble_eq_true rfl) ⟨Nat.zero_le _, Nat.zero_le _⟩ dX8_doJoin_63 (fun H locs hP hD hS => ?_)
          refine lv_aload_n hx hb dX8_doJoin_66 rfl (lv_at hl 0 rfl) ?_
          refine lv_bipush (v := 106) hx hb dX8_doJoin_67 (by decide) ?_
          refine lv_iload_n hx hb dX8_doJoin_69 rfl (lv_at hl 1 rfl) ?_
          refine lv_iconst (v := 0) hx hb dX8_doJoin_70 (by decide) ?_
          refine lv_t0 (show (0 : Int32) = litq (-1) from rfl) ?_
          refine c_wcVv (ws' := [(am, .inr (12, [.ref aS, .ref aBf, .ref aAs, .ref aSv, .int iS, .ref aPa, .int (nI K), .int th, .ref aOu, .int (nI OM), .ref aTx, .int (nI LN), .int (nI PO), .int iw, .int ea, .int fa, .ref aCo, .int (nI CM)])), (aS, .inl (cy 2, 89, .inl (encT N v h pl (upd me (bx b) 1) M db dl du dq dw (evc E) (psh ek 106) (psh eb b) (psh el (-1)) t1 t2 t3 t4 t5 t6)))]) S9 (c_X8_happens l G cy am aS aBf aAs aSv aPa aOu aTx aCo K OM LN PO CM iS th iw ea fa N v h pl (upd me (bx b) 1) M db dl du dq dw E ek eb el t1 t2 t3 t4 t5 t6 106 b (-1) hE) (cwV 3 hts gX8_doJoin_X8_happens rfl rfl rfl (by decide +kernel) ⟨Nat.le_of_ble_eq_true rfl, Nat.le_of_ble_eq_true rfl⟩) PB.blind (va_recv hK.1 hP (ci := 12) (q0 := 0) rfl rfl) (PB.at hK (m_Ppart hP [0, 1] rfl)) hP hD hS [0, 1] rfl rfl m_f2 rfl rfl hl.1 rfl (Nat.le_of_ble_eq_true rfl) ⟨Nat.zero_le _, Nat.zero_le _⟩ dX8_doJoin_71 (fun H locs hP hD hS => ?_)
          refine lv_aload_n hx hb dX8_doJoin_74 rfl (lv_at hl 0 rfl) ?_
          refine c_roVi S9 (c_X8_members l G cy am aS aBf aAs aSv aPa aOu aTx aCo K OM LN PO CM iS th iw ea fa N v h pl (upd me (bx b) 1) M db dl du dq dw (evc E) (psh ek 106) (psh eb b) (psh el (-1)) t1 t2 t3 t4 t5 t6 (by omega) (m01_upd hm (Or.inr rfl))) (cwV 0 hts gX8_doJoin_X8_members rfl rfl rfl (by decide +kernel) ⟨Nat.le_of_ble_eq_true rfl, Nat.le_of_ble_eq_true rfl⟩) PB.blind (va_recv hK.1 hP (ci := 12) (q0 := 0) rfl rfl) (PB.at hK (m_Ppart hP [0, 1] rfl)) rfl hl.1 rfl (Nat.le_of_ble_eq_true rfl) ⟨Nat.zero_le _, Nat.zero_le _⟩ dX8_doJoin_75 ?_
          exact wc_iret hx hb hr hlocks hP hS rfl dX8_doJoin_78
        · have b_11 : ¬ (inR (rdeg (h (bx b)) (v (bx b))) 30 45 = true) := m_ite0.mp c_9
          exact absurd hF (by simp [admF, b_2, z_5, b_8, b_11])
    · have z_12 : ¬ (me (bx b)) = 0 := m_fl1 c_4
      exact absurd hF (by simp [admF, b_2, z_12])
  · have b_13 : ¬ (inI b (nI N) = true) := m_ite0.mp c_1
    exact absurd hF (by simp [admF, b_13])

set_option maxRecDepth 100000 in
set_option maxHeartbeats 1000000 in
theorem c_X8_doJoin_no (l : Launch) (G : va_G) (cy : Nat → ClassId) (am aS aBf aAs aSv aPa aOu aTx aCo K OM LN PO CM : Nat) (iS th iw ea fa : Int32) (N : Nat) (v h pl me : Nat → Int32) (M : Nat) (db dl du dq dw : Nat → Int32) (E : Nat) (ek eb el : Nat → Int32) (t1 t2 t3 t4 t5 t6 b : Int32) (hN : N ≤ 5) (hE : E ≤ 10) (hm : ∀ j, j < 5 → me j = 0 ∨ me j = 1) (hF : ¬ admF N v h me b = 0) : WC l yX8_doJoin wsX8_doJoin { frames := 2, cells := 0, slots := 0, locals := 43 } G (PB G cy [(am, .inr (12, [.ref aS, .ref aBf, .ref aAs, .ref aSv, .int iS, .ref aPa, .int (nI K), .int th, .ref aOu, .int (nI OM), .ref aTx, .int (nI LN), .int (nI PO), .int iw, .int ea, .int fa, .ref aCo, .int (nI CM)])), (aS, .inl (cy 2, 89, .inl (encT N v h pl me M db dl du dq dw E ek eb el t1 t2 t3 t4 t5 t6)))]) [.ref am, .int b] [(am, .inr (12, [.ref aS, .ref aBf, .ref aAs, .ref aSv, .int iS, .ref aPa, .int (nI K), .int th, .ref aOu, .int (nI OM), .ref aTx, .int (nI LN), .int (nI PO), .int iw, .int ea, .int fa, .ref aCo, .int (nI CM)])), (aS, .inl (cy 2, 89, .inl (encT N v h pl me M db dl du dq dw E ek eb el t1 t2 t3 t4 t5 t6)))] [(am, .inr (12, [.ref aS, .ref aBf, .ref aAs, .ref aSv, .int iS, .ref aPa, .int (nI K), .int (mcJ (admF N v h me b)), .ref aOu, .int (nI OM), .ref aTx, .int (nI LN), .int (nI PO), .int iw, .int ea, .int fa, .ref aCo, .int (nI CM)])), (aS, .inl (cy 2, 89, .inl (encT N v h pl me M db dl du dq dw E ek eb el t1 t2 t3 t4 t5 t6)))] (some (.int 0)) := by
  refine WC.ofW (cc := cX8_doJoin) (maxL := 2) (ret := (some .int)) (by decide) rfl (Nat.le_of_ble_eq_true rfl) ?_
  intro p e s m below meth c S9 hr hlocks hPB hD hS ls hl
  obtain ⟨hx, hb, hml, hown, hts⟩ := id S9
  obtain ⟨hP, hK⟩ := hPB
  have hl : lv_has ls 2 [(0, .ref am), (1, .int b)] := hl
  refine lv_aload_n hx hb dX8_doJoin_0 rfl (lv_at hl 0 rfl) ?_
  refine lv_iload_n hx hb dX8_doJoin_1 rfl (lv_at hl 1 rfl) ?_
  refine c_roVi S9 (c_X8_isBath l G cy am aS aBf aAs aSv aPa aOu aTx aCo K OM LN PO CM iS th iw ea fa N v h pl me M db dl du dq dw E ek eb el t1 t2 t3 t4 t5 t6 b (by omega)) (cwV 1 hts gX8_doJoin_X8_isBath rfl rfl rfl (by decide +kernel) ⟨Nat.le_of_ble_eq_true rfl, Nat.le_of_ble_eq_true rfl⟩) PB.blind (va_recv hK.1 hP (ci := 12) (q0 := 0) rfl rfl) (PB.at hK (m_Ppart hP [0, 1] rfl)) rfl hl.1 rfl (Nat.le_of_ble_eq_true rfl) ⟨Nat.zero_le _, Nat.zero_le _⟩ dX8_doJoin_2 ?_
  refine lv_if_ne (tgt := 14) hx hb dX8_doJoin_5 (by decide) (fun c_1 => ?_) (fun c_1 => ?_)
  · have b_2 : inI b (nI N) = true := m_ite1.mp c_1
    have q_3 := m_ixp (by omega) b_2
    have q_3' := q_3.2
    refine lv_aload_n hx hb dX8_doJoin_14 rfl (lv_at hl 0 rfl) ?_
    refine lv_iload_n hx hb dX8_doJoin_15 rfl (lv_at hl 1 rfl) ?_
    refine lv_iconst (v := 3) hx hb dX8_doJoin_16 (by decide) ?_
    refine lv_t1 (show b = nI (bx b) from q_3.1) ?_
    refine c_roVi S9 (c_X8_of_m l G cy am aS aBf aAs aSv aPa aOu aTx aCo K OM LN PO CM iS th iw ea fa N v h pl me M db dl du dq dw E ek eb el t1 t2 t3 t4 t5 t6 (bx b) (by omega)) (cwV 2 hts gX8_doJoin_X8_of rfl rfl rfl (by decide +kernel) ⟨Nat.le_of_ble_eq_true rfl, Nat.le_of_ble_eq_true rfl⟩) PB.blind (va_recv hK.1 hP (ci := 12) (q0 := 0) rfl rfl) (PB.at hK (m_Ppart hP [0, 1] rfl)) rfl hl.1 rfl (Nat.le_of_ble_eq_true rfl) ⟨Nat.zero_le _, Nat.zero_le _⟩ dX8_doJoin_17 ?_
    refine lv_iconst (v := 1) hx hb dX8_doJoin_20 (by decide) ?_
    refine lv_icmp_ne (tgt := 30) hx hb dX8_doJoin_21 (by decide) (fun c_4 => ?_) (fun c_4 => ?_)
    · have z_5 : (me (bx b)) = 0 := (hm (bx b) (by omega)).resolve_right c_4
      refine lv_aload_n hx hb dX8_doJoin_30 rfl (lv_at hl 0 rfl) ?_
      refine lv_iload_n hx hb dX8_doJoin_31 rfl (lv_at hl 1 rfl) ?_
      refine lv_t0 (show b = nI (bx b) from q_3.1) ?_
      refine c_roVi S9 (c_X8_isWet l G cy am aS aBf aAs aSv aPa aOu aTx aCo K OM LN PO CM iS th iw ea fa N v h pl me M db dl du dq dw E ek eb el t1 t2 t3 t4 t5 t6 (bx b) (by omega)) (cwV 1 hts gX8_doJoin_X8_isWet rfl rfl rfl (by decide +kernel) ⟨Nat.le_of_ble_eq_true rfl, Nat.le_of_ble_eq_true rfl⟩) PB.blind (va_recv hK.1 hP (ci := 12) (q0 := 0) rfl rfl) (PB.at hK (m_Ppart hP [0, 1] rfl)) rfl hl.1 rfl (Nat.le_of_ble_eq_true rfl) ⟨Nat.zero_le _, Nat.zero_le _⟩ dX8_doJoin_32 ?_
      refine lv_if_eq (tgt := 53) hx hb dX8_doJoin_35 (by decide) (fun c_6 => ?_) (fun c_6 => ?_)
      · have b_7 : ¬ (wet v (bx b) = true) := m_ite0.mp c_6
        refine lv_aload_n hx hb dX8_doJoin_53 rfl (lv_at hl 0 rfl) ?_
        refine lv_iconst (v := 3) hx hb dX8_doJoin_54 (by decide) ?_
        refine c_wcVi (ws' := [(am, .inr (12, [.ref aS, .ref aBf, .ref aAs, .ref aSv, .int iS, .ref aPa, .int (nI K), .int 3, .ref aOu, .int (nI OM), .ref aTx, .int (nI LN), .int (nI PO), .int iw, .int ea, .int fa, .ref aCo, .int (nI CM)])), (aS, .inl (cy 2, 89, .inl (encT N v h pl me M db dl du dq dw E ek eb el t1 t2 t3 t4 t5 t6)))]) S9 (c_X8_fails l G cy am aS aBf aAs aSv aPa aOu aTx aCo K OM LN PO CM iS th iw ea fa N v h pl me M db dl du dq dw E ek eb el t1 t2 t3 t4 t5 t6 3) (cwV 1 hts gX8_doJoin_X8_fails rfl rfl rfl (by decide +kernel) ⟨Nat.le_of_ble_eq_true rfl, Nat.le_of_ble_eq_true rfl⟩) PB.blind (va_recv hK.1 hP (ci := 12) (q0 := 0) rfl rfl) (PB.at hK (m_Ppart hP [0, 1] rfl)) hP hD hS [0, 1] rfl rfl m_f2 rfl rfl hl.1 rfl (Nat.le_of_ble_eq_true rfl) ⟨Nat.zero_le _, Nat.zero_le _⟩ dX8_doJoin_55 (fun H locs hP hD hS => ?_)
        have e_8 : mcJ (admF N v h me b) = 3 := (by simp [admF, mcJ, b_2, z_5, b_7])
        exact wc_iret hx hb hr hlocks (by rw [e_8]; exact hP) hS rfl dX8_doJoin_58
      · have b_9 : wet v (bx b) = true := m_ite1.mp c_6
        refine lv_aload_n hx hb dX8_doJoin_38 rfl (lv_at hl 0 rfl) ?_
        refine lv_iload_n hx hb dX8_doJoin_39 rfl (lv_at hl 1 rfl) ?_
        refine lv_t0 (show b = nI (bx b) from q_3.1) ?_
        refine c_roVi S9 (c_X8_degrees l G cy am aS aBf aAs aSv aPa aOu aTx aCo K OM LN PO CM iS th iw ea fa N v h pl me M db dl du dq dw E ek eb el t1 t2 t3 t4 t5 t6 (bx b) (by omega) b_9) (cwV 1 hts gX8_doJoin_X8_degrees rfl rfl rfl (by decide +kernel) ⟨Nat.le_of_ble_eq_true rfl, Nat.le_of_ble_eq_true rfl⟩) PB.blind (va_recv hK.1 hP (ci := 12) (q0 := 0) rfl rfl) (PB.at hK (m_Ppart hP [0, 1] rfl)) rfl hl.1 rfl (Nat.le_of_ble_eq_true rfl) ⟨Nat.zero_le _, Nat.zero_le _⟩ dX8_doJoin_40 ?_
        refine lv_bipush (v := 30) hx hb dX8_doJoin_43 (by decide) ?_
        refine lv_bipush (v := 45) hx hb dX8_doJoin_45 (by decide) ?_
        refine c_roSi S9 (c_X8_in l G cy (rdeg (h (bx b)) (v (bx b))) 30 45) (va_cwS 3 hts gX8_doJoin_X8_in rfl rfl rfl (by decide +kernel) ⟨Nat.le_of_ble_eq_true rfl, Nat.le_of_ble_eq_true rfl⟩) PB.blind (PB.at hK (m_Ppart hP [] rfl)) rfl hl.1 rfl (Nat.le_of_ble_eq_true rfl) ⟨Nat.zero_le _, Nat.zero_le _⟩ dX8_doJoin_47 ?_
        refine lv_if_ne (tgt := 59) hx hb dX8_doJoin_50 (by decide) (fun c_10 => ?_) (fun c_10 => ?_)
        · have b_11 : inR (rdeg (h (bx b)) (v (bx b))) 30 45 = true := m_ite1.mp c_10
          exact absurd hF (by simp [admF, b_2, z_5, b_9, b_11])
        · have b_12 : ¬ (inR (rdeg (h (bx b)) (v (bx b))) 30 45 = true) := m_ite0.mp c_10
          refine lv_aload_n hx hb dX8_doJoin_53 rfl (lv_at hl 0 rfl) ?_
          refine lv_iconst (v := 3) hx hb dX8_doJoin_54 (by decide) ?_
          refine c_wcVi (ws' := [(am, .inr (12, [.ref aS, .ref aBf, .ref aAs, .ref aSv, .int iS, .ref aPa, .int (nI K), .int 3, .ref aOu, .int (nI OM), .ref aTx, .int (nI LN), .int (nI PO), .int iw, .int ea, .int fa, .ref aCo, .int (nI CM)])), (aS, .inl (cy 2, 89, .inl (encT N v h pl me M db dl du dq dw E ek eb el t1 t2 t3 t4 t5 t6)))]) S9 (c_X8_fails l G cy am aS aBf aAs aSv aPa aOu aTx aCo K OM LN PO CM iS th iw ea fa N v h pl me M db dl du dq dw E ek eb el t1 t2 t3 t4 t5 t6 3) (cwV 1 hts gX8_doJoin_X8_fails rfl rfl rfl (by decide +kernel) ⟨Nat.le_of_ble_eq_true rfl, Nat.le_of_ble_eq_true rfl⟩) PB.blind (va_recv hK.1 hP (ci := 12) (q0 := 0) rfl rfl) (PB.at hK (m_Ppart hP [0, 1] rfl)) hP hD hS [0, 1] rfl rfl m_f2 rfl rfl hl.1 rfl (Nat.le_of_ble_eq_true rfl) ⟨Nat.zero_le _, Nat.zero_le _⟩ dX8_doJoin_55 (fun H locs hP hD hS => ?_)
          have e_13 : mcJ (admF N v h me b) = 3 := (by simp [admF, mcJ, b_2, z_5, b_9, b_12])
          exact wc_iret hx hb hr hlocks (by rw [e_13]; exact hP) hS rfl dX8_doJoin_58
    · have z_14 : ¬ (me (bx b)) = 0 := m_fl1 c_4
      refine lv_aload_n hx hb dX8_doJoin_24 rfl (lv_at hl 0 rfl) ?_
      refine lv_iconst (v := 2) hx hb dX8_doJoin_25 (by decide) ?_
      refine c_wcVi (ws' := [(am, .inr (12, [.ref aS, .ref aBf, .ref aAs, .ref aSv, .int iS, .ref aPa, .int (nI K), .int 2, .ref aOu, .int (nI OM), .ref aTx, .int (nI LN), .int (nI PO), .int iw, .int ea, .int fa, .ref aCo, .int (nI CM)])), (aS, .inl (cy 2, 89, .inl (encT N v h pl me M db dl du dq dw E ek eb el t1 t2 t3 t4 t5 t6)))]) S9 (c_X8_fails l G cy am aS aBf aAs aSv aPa aOu aTx aCo K OM LN PO CM iS th iw ea fa N v h pl me M db dl du dq dw E ek eb el t1 t2 t3 t4 t5 t6 2) (cwV 1 hts gX8_doJoin_X8_fails rfl rfl rfl (by decide +kernel) ⟨Nat.le_of_ble_eq_true rfl, Nat.le_of_ble_eq_true rfl⟩) PB.blind (va_recv hK.1 hP (ci := 12) (q0 := 0) rfl rfl) (PB.at hK (m_Ppart hP [0, 1] rfl)) hP hD hS [0, 1] rfl rfl m_f2 rfl rfl hl.1 rfl (Nat.le_of_ble_eq_true rfl) ⟨Nat.zero_le _, Nat.zero_le _⟩ dX8_doJoin_26 (fun H locs hP hD hS => ?_)
      have e_15 : mcJ (admF N v h me b) = 2 := (by simp [admF, mcJ, b_2, z_14])
      exact wc_iret hx hb hr hlocks (by rw [e_15]; exact hP) hS rfl dX8_doJoin_29
  · have b_16 : ¬ (inI b (nI N) = true) := m_ite0.mp c_1
    refine lv_aload_n hx hb dX8_doJoin_8 rfl (lv_at hl 0 rfl) ?_
    refine lv_iconst (v := 1) hx hb dX8_doJoin_9 (by decide) ?_
    refine c_wcVi (ws' := [(am, .inr (12, [.ref aS, .ref aBf, .ref aAs, .ref aSv, .int iS, .ref aPa, .int (nI K), .int 1, .ref aOu, .int (nI OM), .ref aTx, .int (nI LN), .int (nI PO), .int iw, .int ea, .int fa, .ref aCo, .int (nI CM)])), (aS, .inl (cy 2, 89, .inl (encT N v h pl me M db dl du dq dw E ek eb el t1 t2 t3 t4 t5 t6)))]) S9 (c_X8_fails l G cy am aS aBf aAs aSv aPa aOu aTx aCo K OM LN PO CM iS th iw ea fa N v h pl me M db dl du dq dw E ek eb el t1 t2 t3 t4 t5 t6 1) (cwV 1 hts gX8_doJoin_X8_fails rfl rfl rfl (by decide +kernel) ⟨Nat.le_of_ble_eq_true rfl, Nat.le_of_ble_eq_true rfl⟩) PB.blind (va_recv hK.1 hP (ci := 12) (q0 := 0) rfl rfl) (PB.at hK (m_Ppart hP [0, 1] rfl)) hP hD hS [0, 1] rfl rfl m_f2 rfl rfl hl.1 rfl (Nat.le_of_ble_eq_true rfl) ⟨Nat.zero_le _, Nat.zero_le _⟩ dX8_doJoin_10 (fun H locs hP hD hS => ?_)
    have e_17 : mcJ (admF N v h me b) = 1 := (by simp [admF, mcJ, b_16])
    exact wc_iret hx hb hr hlocks (by rw [e_17]; exact hP) hS rfl dX8_doJoin_13

set_option maxRecDepth 100000 in
set_option maxHeartbeats 1000000 in
theorem c_X8_doLeave_ok (l : Launch) (G : va_G) (cy : Nat → ClassId) (am aS aBf aAs aSv aPa aOu aTx aCo K OM LN PO CM : Nat) (iS th iw ea fa : Int32) (N : Nat) (v h pl me : Nat → Int32) (M : Nat) (db dl du dq dw : Nat → Int32) (E : Nat) (ek eb el : Nat → Int32) (t1 t2 t3 t4 t5 t6 b : Int32) (hN : N ≤ 5) (hE : E ≤ 10) (hm : ∀ j, j < 5 → me j = 0 ∨ me j = 1) (hF : disF N me b = 0) : WC l yX8_doLeave wsX8_doLeave { frames := 2, cells := 0, slots := 0, locals := 49 } G (PB G cy [(am, .inr (12, [.ref aS, .ref aBf, .ref aAs, .ref aSv, .int iS, .ref aPa, .int (nI K), .int th, .ref aOu, .int (nI OM), .ref aTx, .int (nI LN), .int (nI PO), .int iw, .int ea, .int fa, .ref aCo, .int (nI CM)])), (aS, .inl (cy 2, 89, .inl (encT N v h pl me M db dl du dq dw E ek eb el t1 t2 t3 t4 t5 t6)))]) [.ref am, .int b] [(am, .inr (12, [.ref aS, .ref aBf, .ref aAs, .ref aSv, .int iS, .ref aPa, .int (nI K), .int th, .ref aOu, .int (nI OM), .ref aTx, .int (nI LN), .int (nI PO), .int iw, .int ea, .int fa, .ref aCo, .int (nI CM)])), (aS, .inl (cy 2, 89, .inl (encT N v h pl me M db dl du dq dw E ek eb el t1 t2 t3 t4 t5 t6)))] [(am, .inr (12, [.ref aS, .ref aBf, .ref aAs, .ref aSv, .int iS, .ref aPa, .int (nI K), .int th, .ref aOu, .int (nI OM), .ref aTx, .int (nI LN), .int (nI PO), .int iw, .int ea, .int fa, .ref aCo, .int (nI CM)])), (aS, .inl (cy 2, 89, .inl (encT N v h pl (upd me (bx b) 0) M db dl du dq dw (evc E) (psh ek 108) (psh eb b) (psh el (-1)) t1 t2 t3 t4 t5 t6)))] (some (.int (cntM (upd me (bx b) 0) N))) := by
  refine WC.ofW (cc := cX8_doLeave) (maxL := 2) (ret := (some .int)) (by decide) rfl (Nat.le_of_ble_eq_true rfl) ?_
  intro p e s m below meth c S9 hr hlocks hPB hD hS ls hl
  obtain ⟨hx, hb, hml, hown, hts⟩ := id S9
  obtain ⟨hP, hK⟩ := hPB
  have hl : lv_has ls 2 [(0, .ref am), (1, .int b)] := hl
  refine lv_aload_n hx hb dX8_doLeave_0 rfl (lv_at hl 0 rfl) ?_
  refine lv_iload_n hx hb dX8_doLeave_1 rfl (lv_at hl 1 rfl) ?_
  refine c_roVi S9 (c_X8_isBath l G cy am aS aBf aAs aSv aPa aOu aTx aCo K OM LN PO CM iS th iw ea fa N v h pl me M db dl du dq dw E ek eb el t1 t2 t3 t4 t5 t6 b (by omega)) (cwV 1 hts gX8_doLeave_X8_isBath rfl rfl rfl (by decide +kernel) ⟨Nat.le_of_ble_eq_true rfl, Nat.le_of_ble_eq_true rfl⟩) PB.blind (va_recv hK.1 hP (ci := 12) (q0 := 0) rfl rfl) (PB.at hK (m_Ppart hP [0, 1] rfl)) rfl hl.1 rfl (Nat.le_of_ble_eq_true rfl) ⟨Nat.zero_le _, Nat.zero_le _⟩ dX8_doLeave_2 ?_
  refine lv_if_ne (tgt := 14) hx hb dX8_doLeave_5 (by decide) (fun c_1 => ?_) (fun c_1 => ?_)
  · have b_2 : inI b (nI N) = true := m_ite1.mp c_1
    have q_3 := m_ixp (by omega) b_2
    have q_3' := q_3.2
    refine lv_aload_n hx hb dX8_doLeave_14 rfl (lv_at hl 0 rfl) ?_
    refine lv_iload_n hx hb dX8_doLeave_15 rfl (lv_at hl 1 rfl) ?_
    refine lv_iconst (v := 3) hx hb dX8_doLeave_16 (by decide) ?_
    refine lv_t1 (show b = nI (bx b) from q_3.1) ?_
    refine c_roVi S9 (c_X8_of_m l G cy am aS aBf aAs aSv aPa aOu aTx aCo K OM LN PO CM iS th iw ea fa N v h pl me M db dl du dq dw E ek eb el t1 t2 t3 t4 t5 t6 (bx b) (by omega)) (cwV 2 hts gX8_doLeave_X8_of rfl rfl rfl (by decide +kernel) ⟨Nat.le_of_ble_eq_true rfl, Nat.le_of_ble_eq_true rfl⟩) PB.blind (va_recv hK.1 hP (ci := 12) (q0 := 0) rfl rfl) (PB.at hK (m_Ppart hP [0, 1] rfl)) rfl hl.1 rfl (Nat.le_of_ble_eq_true rfl) ⟨Nat.zero_le _, Nat.zero_le _⟩ dX8_doLeave_17 ?_
    refine lv_if_ne (tgt := 29) hx hb dX8_doLeave_20 (by decide) (fun c_4 => ?_) (fun c_4 => ?_)
    · refine lv_aload_n hx hb dX8_doLeave_29 rfl (lv_at hl 0 rfl) ?_
      refine lv_iload_n hx hb dX8_doLeave_30 rfl (lv_at hl 1 rfl) ?_
      refine lv_iconst (v := 3) hx hb dX8_doLeave_31 (by decide) ?_
      refine lv_iconst (v := 0) hx hb dX8_doLeave_32 (by decide) ?_
      refine lv_t2 (show b = nI (bx b) from q_3.1) ?_
      refine c_wcVv (ws' := [(am, .inr (12, [.ref aS, .ref aBf, .ref aAs, .ref aSv, .int iS, .ref aPa, .int (nI K), .int th, .ref aOu, .int (nI OM), .ref aTx, .int (nI LN), .int (nI PO), .int iw, .int ea, .int fa, .ref aCo, .int (nI CM)])), (aS, .inl (cy 2, 89, .inl (encT N v h pl (upd me (bx b) 0) M db dl du dq dw E ek eb el t1 t2 t3 t4 t5 t6)))]) S9 (c_X8_sets_m l G cy am aS aBf aAs aSv aPa aOu aTx aCo K OM LN PO CM iS th iw ea fa N v h pl me M db dl du dq dw E ek eb el t1 t2 t3 t4 t5 t6 (bx b) 0 (by omega)) (cwV 3 hts gX8_doLeave_X8_sets rfl rfl rfl (by decide +kernel) ⟨Nat.le_of_ble_eq_true rfl, Nat.le_of_ble_eq_true rfl⟩) PB.blind (va_recv hK.1 hP (ci := 12) (q0 := 0) rfl rfl) (PB.at hK (m_Ppart hP [0, 1] rfl)) hP hD hS [0, 1] rfl rfl m_f2 rfl rfl hl.1 rfl (Nat.le_of_ble_eq_true rfl) ⟨Nat.zero_le _, Nat.zero_le _⟩ dX8_doLeave_33 (fun H locs hP hD hS => ?_)
      refine lv_aload_n hx hb dX8_doLeave_36 rfl (lv_at hl 0 rfl) ?_
      refine lv_bipush (v := 108) hx hb dX8_doLeave_37 (by decide) ?_
      refine lv_iload_n hx hb dX8_doLeave_39 rfl (lv_at hl 1 rfl) ?_
      refine lv_iconst (v := 0) hx hb dX8_doLeave_40 (by decide) ?_
      refine lv_t0 (show (0 : Int32) = litq (-1) from rfl) ?_
      refine c_wcVv (ws' := [(am, .inr (12, [.ref aS, .ref aBf, .ref aAs, .ref aSv, .int iS, .ref aPa, .int (nI K), .int th, .ref aOu, .int (nI OM), .ref aTx, .int (nI LN), .int (nI PO), .int iw, .int ea, .int fa, .ref aCo, .int (nI CM)])), (aS, .inl (cy 2, 89, .inl (encT N v h pl (upd me (bx b) 0) M db dl du dq dw (evc E) (psh ek 108) (psh eb b) (psh el (-1)) t1 t2 t3 t4 t5 t6)))]) S9 (c_X8_happens l G cy am aS aBf aAs aSv aPa aOu aTx aCo K OM LN PO CM iS th iw ea fa N v h pl (upd me (bx b) 0) M db dl du dq dw E ek eb el t1 t2 t3 t4 t5 t6 108 b (-1) hE) (cwV 3 hts gX8_doLeave_X8_happens rfl rfl rfl (by decide +kernel) ⟨Nat.le_of_ble_eq_true rfl, Nat.le_of_ble_eq_true rfl⟩) PB.blind (va_recv hK.1 hP (ci := 12) (q0 := 0) rfl rfl) (PB.at hK (m_Ppart hP [0, 1] rfl)) hP hD hS [0, 1] rfl rfl m_f2 rfl rfl hl.1 rfl (Nat.le_of_ble_eq_true rfl) ⟨Nat.zero_le _, Nat.zero_le _⟩ dX8_doLeave_41 (fun H locs hP hD hS => ?_)
      refine lv_aload_n hx hb dX8_doLeave_44 rfl (lv_at hl 0 rfl) ?_
      refine c_roVi S9 (c_X8_members l G cy am aS aBf aAs aSv aPa aOu aTx aCo K OM LN PO CM iS th iw ea fa N v h pl (upd me (bx b) 0) M db dl du dq dw (evc E) (psh ek 108) (psh eb b) (psh el (-1)) t1 t2 t3 t4 t5 t6 (by omega) (m01_upd hm (Or.inl rfl))) (cwV 0 hts gX8_doLeave_X8_members rfl rfl rfl (by decide +kernel) ⟨Nat.le_of_ble_eq_true rfl, Nat.le_of_ble_eq_true rfl⟩) PB.blind (va_recv hK.1 hP (ci := 12) (q0 := 0) rfl rfl) (PB.at hK (m_Ppart hP [0, 1] rfl)) rfl hl.1 rfl (Nat.le_of_ble_eq_true rfl) ⟨Nat.zero_le _, Nat.zero_le _⟩ dX8_doLeave_45 ?_
      exact wc_iret hx hb hr hlocks hP hS rfl dX8_doLeave_48
    · exact absurd hF (by simp [disF, b_2, c_4])
  · have b_5 : ¬ (inI b (nI N) = true) := m_ite0.mp c_1
    exact absurd hF (by simp [disF, b_5])

set_option maxRecDepth 100000 in
set_option maxHeartbeats 1000000 in
theorem c_X8_doLeave_no (l : Launch) (G : va_G) (cy : Nat → ClassId) (am aS aBf aAs aSv aPa aOu aTx aCo K OM LN PO CM : Nat) (iS th iw ea fa : Int32) (N : Nat) (v h pl me : Nat → Int32) (M : Nat) (db dl du dq dw : Nat → Int32) (E : Nat) (ek eb el : Nat → Int32) (t1 t2 t3 t4 t5 t6 b : Int32) (hN : N ≤ 5) (hE : E ≤ 10) (hm : ∀ j, j < 5 → me j = 0 ∨ me j = 1) (hF : ¬ disF N me b = 0) : WC l yX8_doLeave wsX8_doLeave { frames := 2, cells := 0, slots := 0, locals := 43 } G (PB G cy [(am, .inr (12, [.ref aS, .ref aBf, .ref aAs, .ref aSv, .int iS, .ref aPa, .int (nI K), .int th, .ref aOu, .int (nI OM), .ref aTx, .int (nI LN), .int (nI PO), .int iw, .int ea, .int fa, .ref aCo, .int (nI CM)])), (aS, .inl (cy 2, 89, .inl (encT N v h pl me M db dl du dq dw E ek eb el t1 t2 t3 t4 t5 t6)))]) [.ref am, .int b] [(am, .inr (12, [.ref aS, .ref aBf, .ref aAs, .ref aSv, .int iS, .ref aPa, .int (nI K), .int th, .ref aOu, .int (nI OM), .ref aTx, .int (nI LN), .int (nI PO), .int iw, .int ea, .int fa, .ref aCo, .int (nI CM)])), (aS, .inl (cy 2, 89, .inl (encT N v h pl me M db dl du dq dw E ek eb el t1 t2 t3 t4 t5 t6)))] [(am, .inr (12, [.ref aS, .ref aBf, .ref aAs, .ref aSv, .int iS, .ref aPa, .int (nI K), .int (mcL (disF N me b)), .ref aOu, .int (nI OM), .ref aTx, .int (nI LN), .int (nI PO), .int iw, .int ea, .int fa, .ref aCo, .int (nI CM)])), (aS, .inl (cy 2, 89, .inl (encT N v h pl me M db dl du dq dw E ek eb el t1 t2 t3 t4 t5 t6)))] (some (.int 0)) := by
  refine WC.ofW (cc := cX8_doLeave) (maxL := 2) (ret := (some .int)) (by decide) rfl (Nat.le_of_ble_eq_true rfl) ?_
  intro p e s m below meth c S9 hr hlocks hPB hD hS ls hl
  obtain ⟨hx, hb, hml, hown, hts⟩ := id S9
  obtain ⟨hP, hK⟩ := hPB
  have hl : lv_has ls 2 [(0, .ref am), (1, .int b)] := hl
  refine lv_aload_n hx hb dX8_doLeave_0 rfl (lv_at hl 0 rfl) ?_
  refine lv_iload_n hx hb dX8_doLeave_1 rfl (lv_at hl 1 rfl) ?_
  refine c_roVi S9 (c_X8_isBath l G cy am aS aBf aAs aSv aPa aOu aTx aCo K OM LN PO CM iS th iw ea fa N v h pl me M db dl du dq dw E ek eb el t1 t2 t3 t4 t5 t6 b (by omega)) (cwV 1 hts gX8_doLeave_X8_isBath rfl rfl rfl (by decide +kernel) ⟨Nat.le_of_ble_eq_true rfl, Nat.le_of_ble_eq_true rfl⟩) PB.blind (va_recv hK.1 hP (ci := 12) (q0 := 0) rfl rfl) (PB.at hK (m_Ppart hP [0, 1] rfl)) rfl hl.1 rfl (Nat.le_of_ble_eq_true rfl) ⟨Nat.zero_le _, Nat.zero_le _⟩ dX8_doLeave_2 ?_
  refine lv_if_ne (tgt := 14) hx hb dX8_doLeave_5 (by decide) (fun c_1 => ?_) (fun c_1 => ?_)
  · have b_2 : inI b (nI N) = true := m_ite1.mp c_1
    have q_3 := m_ixp (by omega) b_2
    have q_3' := q_3.2
    refine lv_aload_n hx hb dX8_doLeave_14 rfl (lv_at hl 0 rfl) ?_
    refine lv_iload_n hx hb dX8_doLeave_15 rfl (lv_at hl 1 rfl) ?_
    refine lv_iconst (v := 3) hx hb dX8_doLeave_16 (by decide) ?_
    refine lv_t1 (show b = nI (bx b) from q_3.1) ?_
    refine c_roVi S9 (c_X8_of_m l G cy am aS aBf aAs aSv aPa aOu aTx aCo K OM LN PO CM iS th iw ea fa N v h pl me M db dl du dq dw E ek eb el t1 t2 t3 t4 t5 t6 (bx b) (by omega)) (cwV 2 hts gX8_doLeave_X8_of rfl rfl rfl (by decide +kernel) ⟨Nat.le_of_ble_eq_true rfl, Nat.le_of_ble_eq_true rfl⟩) PB.blind (va_recv hK.1 hP (ci := 12) (q0 := 0) rfl rfl) (PB.at hK (m_Ppart hP [0, 1] rfl)) rfl hl.1 rfl (Nat.le_of_ble_eq_true rfl) ⟨Nat.zero_le _, Nat.zero_le _⟩ dX8_doLeave_17 ?_
    refine lv_if_ne (tgt := 29) hx hb dX8_doLeave_20 (by decide) (fun c_4 => ?_) (fun c_4 => ?_)
    · exact absurd hF (by simp [disF, b_2, c_4])
    · refine lv_aload_n hx hb dX8_doLeave_23 rfl (lv_at hl 0 rfl) ?_
      refine lv_iconst (v := 2) hx hb dX8_doLeave_24 (by decide) ?_
      refine c_wcVi (ws' := [(am, .inr (12, [.ref aS, .ref aBf, .ref aAs, .ref aSv, .int iS, .ref aPa, .int (nI K), .int 2, .ref aOu, .int (nI OM), .ref aTx, .int (nI LN), .int (nI PO), .int iw, .int ea, .int fa, .ref aCo, .int (nI CM)])), (aS, .inl (cy 2, 89, .inl (encT N v h pl me M db dl du dq dw E ek eb el t1 t2 t3 t4 t5 t6)))]) S9 (c_X8_fails l G cy am aS aBf aAs aSv aPa aOu aTx aCo K OM LN PO CM iS th iw ea fa N v h pl me M db dl du dq dw E ek eb el t1 t2 t3 t4 t5 t6 2) (cwV 1 hts gX8_doLeave_X8_fails rfl rfl rfl (by decide +kernel) ⟨Nat.le_of_ble_eq_true rfl, Nat.le_of_ble_eq_true rfl⟩) PB.blind (va_recv hK.1 hP (ci := 12) (q0 := 0) rfl rfl) (PB.at hK (m_Ppart hP [0, 1] rfl)) hP hD hS [0, 1] rfl rfl m_f2 rfl rfl hl.1 rfl (Nat.le_of_ble_eq_true rfl) ⟨Nat.zero_le _, Nat.zero_le _⟩ dX8_doLeave_25 (fun H locs hP hD hS => ?_)
      have e_5 : mcL (disF N me b) = 2 := (by simp [disF, mcL, b_2, c_4])
      exact wc_iret hx hb hr hlocks (by rw [e_5]; exact hP) hS rfl dX8_doLeave_28
  · have b_6 : ¬ (inI b (nI N) = true) := m_ite0.mp c_1
    refine lv_aload_n hx hb dX8_doLeave_8 rfl (lv_at hl 0 rfl) ?_
    refine lv_iconst (v := 1) hx hb dX8_doLeave_9 (by decide) ?_
    refine c_wcVi (ws' := [(am, .inr (12, [.ref aS, .ref aBf, .ref aAs, .ref aSv, .int iS, .ref aPa, .int (nI K), .int 1, .ref aOu, .int (nI OM), .ref aTx, .int (nI LN), .int (nI PO), .int iw, .int ea, .int fa, .ref aCo, .int (nI CM)])), (aS, .inl (cy 2, 89, .inl (encT N v h pl me M db dl du dq dw E ek eb el t1 t2 t3 t4 t5 t6)))]) S9 (c_X8_fails l G cy am aS aBf aAs aSv aPa aOu aTx aCo K OM LN PO CM iS th iw ea fa N v h pl me M db dl du dq dw E ek eb el t1 t2 t3 t4 t5 t6 1) (cwV 1 hts gX8_doLeave_X8_fails rfl rfl rfl (by decide +kernel) ⟨Nat.le_of_ble_eq_true rfl, Nat.le_of_ble_eq_true rfl⟩) PB.blind (va_recv hK.1 hP (ci := 12) (q0 := 0) rfl rfl) (PB.at hK (m_Ppart hP [0, 1] rfl)) hP hD hS [0, 1] rfl rfl m_f2 rfl rfl hl.1 rfl (Nat.le_of_ble_eq_true rfl) ⟨Nat.zero_le _, Nat.zero_le _⟩ dX8_doLeave_10 (fun H locs hP hD hS => ?_)
    have e_7 : mcL (disF N me b) = 1 := (by simp [disF, mcL, b_6])
    exact wc_iret hx hb hr hlocks (by rw [e_7]; exact hP) hS rfl dX8_doLeave_13

set_option maxRecDepth 100000 in
set_option maxHeartbeats 1000000 in
theorem c_X8_doAddBath_ok (l : Launch) (G : va_G) (cy : Nat → ClassId) (am aS aBf aAs aSv aPa aOu aTx aCo K OM LN PO CM : Nat) (iS th iw ea fa : Int32) (N : Nat) (v h pl me : Nat → Int32) (M : Nat) (db dl du dq dw : Nat → Int32) (E : Nat) (ek eb el : Nat → Int32) (t1 t2 t3 t4 t5 t6 : Int32) (hN : N ≤ 5) (hF : (if N < 5 then (0 : Int32) else 3) = 0) : WC l yX8_doAddBath wsX8_doAddBath { frames := 1, cells := 0, slots := 0, locals := 23 } G (PB G cy [(am, .inr (12, [.ref aS, .ref aBf, .ref aAs, .ref aSv, .int iS, .ref aPa, .int (nI K), .int th, .ref aOu, .int (nI OM), .ref aTx, .int (nI LN), .int (nI PO), .int iw, .int ea, .int fa, .ref aCo, .int (nI CM)])), (aS, .inl (cy 2, 89, .inl (encT N v h pl me M db dl du dq dw E ek eb el t1 t2 t3 t4 t5 t6)))]) [.ref am] [(am, .inr (12, [.ref aS, .ref aBf, .ref aAs, .ref aSv, .int iS, .ref aPa, .int (nI K), .int th, .ref aOu, .int (nI OM), .ref aTx, .int (nI LN), .int (nI PO), .int iw, .int ea, .int fa, .ref aCo, .int (nI CM)])), (aS, .inl (cy 2, 89, .inl (encT N v h pl me M db dl du dq dw E ek eb el t1 t2 t3 t4 t5 t6)))] [(am, .inr (12, [.ref aS, .ref aBf, .ref aAs, .ref aSv, .int iS, .ref aPa, .int (nI K), .int th, .ref aOu, .int (nI OM), .ref aTx, .int (nI LN), .int (nI PO), .int iw, .int ea, .int fa, .ref aCo, .int (nI CM)])), (aS, .inl (cy 2, 89, .inl (encT (N + 1) (upd v N 0) (upd h N 0) (upd pl N 1) (upd me N 0) M db dl du dq dw E ek eb el t1 t2 t3 t4 t5 t6)))] (some (.int (nI N))) := by
  refine WC.ofW (cc := cX8_doAddBath) (maxL := 3) (ret := (some .int)) (by decide) rfl (Nat.le_of_ble_eq_true rfl) ?_
  intro p e s m below meth c S9 hr hlocks hPB hD hS ls hl
  obtain ⟨hx, hb, hml, hown, hts⟩ := id S9
  obtain ⟨hP, hK⟩ := hPB
  have hl : lv_has ls 3 [(0, .ref am)] := hl
  have hi12 : ∀ w ∈ wsX80, w ∈ wsX8_doAddBath := by decide +kernel
  have hf9 := hts (.fieldLink RX8 9 "BathLeagueModel" "s" "[I") (by decide +kernel)
  refine lv_aload_n hx hb dX8_doAddBath_0 rfl (lv_at hl 0 rfl) ?_
  refine va_get (D := G) (ci := 12) (v := .ref aS) (C := RX8) (T := TX8) (N := 18) hx hb hts hi12 hown hK.1 hP 0 rfl rfl 0 (by decide) hf9 (fun _ h9 => h9) rfl dX8_doAddBath_1 ?_
  refine lv_iconst (v := 0) hx hb dX8_doAddBath_4 (by decide) ?_
  refine m_iald hx hb hK hP 1 (k := 0) rfl rfl (by omega) (Nat.le_of_ble_eq_true rfl) dX8_doAddBath_5 ?_
  refine lv_t0 (encR_0 rfl) ?_
  refine lv_istore_n (lv' := [(1, .int (nI N)), (0, .ref am)]) hx hb dX8_doAddBath_6 rfl hl (by decide) rfl (fun ls hl => ?_)
  refine lv_iload_n hx hb dX8_doAddBath_7 rfl (lv_at hl 0 rfl) ?_
  refine lv_iconst (v := 5) hx hb dX8_doAddBath_8 (by decide) ?_
  refine lv_icmp_ne (tgt := 18) hx hb dX8_doAddBath_9 (by decide) (fun c_1 => ?_) (fun c_1 => ?_)
  · have k_2 : ¬ (N = 5) := fun z => c_1 ((m_eqN (a := N) (b := 5) rfl rfl (by omega) (by omega)).mpr z)
    refine lv_iconst (v := 0) hx hb dX8_doAddBath_18 (by decide) ?_
    refine lv_istore_n (lv' := [(2, .int 0), (1, .int (nI N)), (0, .ref am)]) hx hb dX8_doAddBath_19 rfl hl (by decide) rfl (fun ls hl => ?_)
    refine lv_iload_n hx hb dX8_doAddBath_20 rfl (lv_at hl 0 rfl) ?_
    refine lv_iconst (v := 4) hx hb dX8_doAddBath_21 (by decide) ?_
    refine lv_icmp_ge (tgt := 38) hx hb dX8_doAddBath_22 (by decide) (fun c_3 => ?_) (fun c_3 => ?_)
    · exact absurd c_3 (by decide)
    · refine lv_aload_n hx hb dX8_doAddBath_25 rfl (lv_at hl 2 rfl) ?_
      refine lv_iload_n hx hb dX8_doAddBath_26 rfl (lv_at hl 1 rfl) ?_
      refine lv_iload_n hx hb dX8_doAddBath_27 rfl (lv_at hl 0 rfl) ?_
      refine lv_iconst (v := 0) hx hb dX8_doAddBath_28 (by decide) ?_
      refine c_wcVv (ws' := [(am, .inr (12, [.ref aS, .ref aBf, .ref aAs, .ref aSv, .int iS, .ref aPa, .int (nI K), .int th, .ref aOu, .int (nI OM), .ref aTx, .int (nI LN), .int (nI PO), .int iw, .int ea, .int fa, .ref aCo, .int (nI CM)])), (aS, .inl (cy 2, 89, .inl (encT N (upd v N 0) h pl me M db dl du dq dw E ek eb el t1 t2 t3 t4 t5 t6)))]) S9 (c_X8_sets_v l G cy am aS aBf aAs aSv aPa aOu aTx aCo K OM LN PO CM iS th iw ea fa N v h pl me M db dl du dq dw E ek eb el t1 t2 t3 t4 t5 t6 N 0 (by omega)) (cwV 3 hts gX8_doAddBath_X8_sets rfl rfl rfl (by decide +kernel) ⟨Nat.le_of_ble_eq_true rfl, Nat.le_of_ble_eq_true rfl⟩) PB.blind (va_recv hK.1 hP (ci := 12) (q0 := 0) rfl rfl) (PB.at hK (m_Ppart hP [0, 1] rfl)) hP hD hS [0, 1] rfl rfl m_f2 rfl rfl hl.1 rfl (Nat.le_of_ble_eq_true rfl) ⟨Nat.zero_le _, Nat.zero_le _⟩ dX8_doAddBath_29 (fun H locs hP hD hS => ?_)
      refine lv_iinc (v := 1) (lv' := [(2, .int 1), (1, .int (nI N)), (0, .ref am)]) hx hb dX8_doAddBath_32 hl (k := 0) rfl (by decide) (by decide) rfl (fun ls hl => ?_)
      refine lv_goto (tgt := 20) hx hb dX8_doAddBath_35 (by decide) ?_
      refine lv_iload_n hx hb dX8_doAddBath_20 rfl (lv_at hl 0 rfl) ?_
      refine lv_iconst (v := 4) hx hb dX8_doAddBath_21 (by decide) ?_
      refine lv_icmp_ge (tgt := 38) hx hb dX8_doAddBath_22 (by decide) (fun c_4 => ?_) (fun c_4 => ?_)
      · exact absurd c_4 (by decide)
      · refine lv_aload_n hx hb dX8_doAddBath_25 rfl (lv_at hl 2 rfl) ?_
        refine lv_iload_n hx hb dX8_doAddBath_26 rfl (lv_at hl 1 rfl) ?_
        refine lv_iload_n hx hb dX8_doAddBath_27 rfl (lv_at hl 0 rfl) ?_
        refine lv_iconst (v := 0) hx hb dX8_doAddBath_28 (by decide) ?_
        refine c_wcVv (ws' := [(am, .inr (12, [.ref aS, .ref aBf, .ref aAs, .ref aSv, .int iS, .ref aPa, .int (nI K), .int th, .ref aOu, .int (nI OM), .ref aTx, .int (nI LN), .int (nI PO), .int iw, .int ea, .int fa, .ref aCo, .int (nI CM)])), (aS, .inl (cy 2, 89, .inl (encT N (upd v N 0) (upd h N 0) pl me M db dl du dq dw E ek eb el t1 t2 t3 t4 t5 t6)))]) S9 (c_X8_sets_h l G cy am aS aBf aAs aSv aPa aOu aTx aCo K OM LN PO CM iS th iw ea fa N (upd v N 0) h pl me M db dl du dq dw E ek eb el t1 t2 t3 t4 t5 t6 N 0 (by omega)) (cwV 3 hts gX8_doAddBath_X8_sets rfl rfl rfl (by decide +kernel) ⟨Nat.le_of_ble_eq_true rfl, Nat.le_of_ble_eq_true rfl⟩) PB.blind (va_recv hK.1 hP (ci := 12) (q0 := 0) rfl rfl) (PB.at hK (m_Ppart hP [0, 1] rfl)) hP hD hS [0, 1] rfl rfl m_f2 rfl rfl hl.1 rfl (Nat.le_of_ble_eq_true rfl) ⟨Nat.zero_le _, Nat.zero_le _⟩ dX8_doAddBath_29 (fun H locs hP hD hS => ?_)
        refine lv_iinc (v := 2) (lv' := [(2, .int 2), (1, .int (nI N)), (0, .ref am)]) hx hb dX8_doAddBath_32 hl (k := 0) rfl (by decide) (by decide) rfl (fun ls hl => ?_)
        refine lv_goto (tgt := 20) hx hb dX8_doAddBath_35 (by decide) ?_
        refine lv_iload_n hx hb dX8_doAddBath_20 rfl (lv_at hl 0 rfl) ?_
        refine lv_iconst (v := 4) hx hb dX8_doAddBath_21 (by decide) ?_
        refine lv_icmp_ge (tgt := 38) hx hb dX8_doAddBath_22 (by decide) (fun c_5 => ?_) (fun c_5 => ?_)
        · exact absurd c_5 (by decide)
        · refine lv_aload_n hx hb dX8_doAddBath_25 rfl (lv_at hl 2 rfl) ?_
          refine lv_iload_n hx hb dX8_doAddBath_26 rfl (lv_at hl 1 rfl) ?_
          refine lv_iload_n hx hb dX8_doAddBath_27 rfl (lv_at hl 0 rfl) ?_
          refine lv_iconst (v := 0) hx hb dX8_doAddBath_28 (by decide) ?_
          refine c_wcVv (ws' := [(am, .inr (12, [.ref aS, .ref aBf, .ref aAs, .ref aSv, .int iS, .ref aPa, .int (nI K), .int th, .ref aOu, .int (nI OM), .ref aTx, .int (nI LN), .int (nI PO), .int iw, .int ea, .int fa, .ref aCo, .int (nI CM)])), (aS, .inl (cy 2, 89, .inl (encT N (upd v N 0) (upd h N 0) pl me M db dl du dq dw E ek eb el t1 t2 t3 t4 t5 t6)))]) S9 (c_X8_sets_oN l G cy am aS aBf aAs aSv aPa aOu aTx aCo K OM LN PO CM iS th iw ea fa N (upd v N 0) (upd h N 0) pl me M db dl du dq dw E ek eb el t1 t2 t3 t4 t5 t6 N (by omega) (by omega)) (cwV 3 hts gX8_doAddBath_X8_sets rfl rfl rfl (by decide +kernel) ⟨Nat.le_of_ble_eq_true rfl, Nat.le_of_ble_eq_true rfl⟩) PB.blind (va_recv hK.1 hP (ci := 12) (q0 := 0) rfl rfl) (PB.at hK (m_Ppart hP [0, 1] rfl)) hP hD hS [0, 1] rfl rfl m_f2 rfl rfl hl.1 rfl (Nat.le_of_ble_eq_true rfl) ⟨Nat.zero_le _, Nat.zero_le _⟩ dX8_doAddBath_29 (fun H locs hP hD hS => ?_)
          refine lv_iinc (v := 3) (lv' := [(2, .int 3), (1, .int (nI N)), (0, .ref am)]) hx hb dX8_doAddBath_32 hl (k := 0) rfl (by decide) (by decide) rfl (fun ls hl => ?_)
          refine lv_goto (tgt := 20) hx hb dX8_doAddBath_35 (by decide) ?_
          refine lv_iload_n hx hb dX8_doAddBath_20 rfl (lv_at hl 0 rfl) ?_
          refine lv_iconst (v := 4) hx hb dX8_doAddBath_21 (by decide) ?_
          refine lv_icmp_ge (tgt := 38) hx hb dX8_doAddBath_22 (by decide) (fun c_6 => ?_) (fun c_6 => ?_)
          · exact absurd c_6 (by decide)
          · refine lv_aload_n hx hb dX8_doAddBath_25 rfl (lv_at hl 2 rfl) ?_
            refine lv_iload_n hx hb dX8_doAddBath_26 rfl (lv_at hl 1 rfl) ?_
            refine lv_iload_n hx hb dX8_doAddBath_27 rfl (lv_at hl 0 rfl) ?_
            refine lv_iconst (v := 0) hx hb dX8_doAddBath_28 (by decide) ?_
            refine c_wcVv (ws' := [(am, .inr (12, [.ref aS, .ref aBf, .ref aAs, .ref aSv, .int iS, .ref aPa, .int (nI K), .int th, .ref aOu, .int (nI OM), .ref aTx, .int (nI LN), .int (nI PO), .int iw, .int ea, .int fa, .ref aCo, .int (nI CM)])), (aS, .inl (cy 2, 89, .inl (encT N (upd v N 0) (upd h N 0) pl (upd me N 0) M db dl du dq dw E ek eb el t1 t2 t3 t4 t5 t6)))]) S9 (c_X8_sets_m l G cy am aS aBf aAs aSv aPa aOu aTx aCo K OM LN PO CM iS th iw ea fa N (upd v N 0) (upd h N 0) pl me M db dl du dq dw E ek eb el t1 t2 t3 t4 t5 t6 N 0 (by omega)) (cwV 3 hts gX8_doAddBath_X8_sets rfl rfl rfl (by decide +kernel) ⟨Nat.le_of_ble_eq_true rfl, Nat.le_of_ble_eq_true rfl⟩) PB.blind (va_recv hK.1 hP (ci := 12) (q0 := 0) rfl rfl) (PB.at hK (m_Ppart hP [0, 1] rfl)) hP hD hS [0, 1] rfl rfl m_f2 rfl rfl hl.1 rfl (Nat.le_of_ble_eq_true rfl) ⟨Nat.zero_le _, Nat.zero_le _⟩ dX8_doAddBath_29 (fun H locs hP hD hS => ?_)
            refine lv_iinc (v := 4) (lv' := [(2, .int 4), (1, .int (nI N)), (0, .ref am)]) hx hb dX8_doAddBath_32 hl (k := 0) rfl (by decide) (by decide) rfl (fun ls hl => ?_)
            refine lv_goto (tgt := 20) hx hb dX8_doAddBath_35 (by decide) ?_
            refine lv_iload_n hx hb dX8_doAddBath_20 rfl (lv_at hl 0 rfl) ?_
            refine lv_iconst (v := 4) hx hb dX8_doAddBath_21 (by decide) ?_
            refine lv_icmp_ge (tgt := 38) hx hb dX8_doAddBath_22 (by decide) (fun c_7 => ?_) (fun c_7 => ?_)
            · refine lv_aload_n hx hb dX8_doAddBath_38 rfl (lv_at hl 2 rfl) ?_
              refine va_get (D := G) (ci := 12) (v := .ref aS) (C := RX8) (T := TX8) (N := 18) hx hb hts hi12 hown hK.1 hP 0 rfl rfl 0 (by decide) hf9 (fun _ h9 => h9) rfl dX8_doAddBath_39 ?_
              refine lv_iconst (v := 0) hx hb dX8_doAddBath_42 (by decide) ?_
              refine lv_dup2_11 hx hb dX8_doAddBath_43 rfl rfl ?_
              refine m_iald hx hb hK hP 1 (k := 0) rfl rfl (by omega) (Nat.le_of_ble_eq_true rfl) dX8_doAddBath_44 ?_
              refine lv_t0 (encR_0 rfl) ?_
              refine lv_iconst (v := 1) hx hb dX8_doAddBath_45 (by decide) ?_
              refine lv_iadd hx hb dX8_doAddBath_46 ?_
              refine m_iast hx hb hK hP hD hS 1 (k := 0) rfl rfl (by omega) (Nat.le_of_ble_eq_true rfl) dX8_doAddBath_47 (fun H locs hP hD hS => ?_)
              rw [encU_0 (j := 0) (x := (nI N) + 1) rfl (m_add rfl rfl)] at hP hD
              have hP : va_P G vwCl [(am, .inr (12, [.ref aS, .ref aBf, .ref aAs, .ref aSv, .int iS, .ref aPa, .int (nI K), .int th, .ref aOu, .int (nI OM), .ref aTx, .int (nI LN), .int (nI PO), .int iw, .int ea, .int fa, .ref aCo, .int (nI CM)])), (aS, .inl (cy 2, 89, .inl (encT (N + 1) (upd v N 0) (upd h N 0) (upd pl N 1) (upd me N 0) M db dl du dq dw E ek eb el t1 t2 t3 t4 t5 t6)))] H := hP
              have hD : va_D (wA [(am, .inr (12, [.ref aS, .ref aBf, .ref aAs, .ref aSv, .int iS, .ref aPa, .int (nI K), .int th, .ref aOu, .int (nI OM), .ref aTx, .int (nI LN), .int (nI PO), .int iw, .int ea, .int fa, .ref aCo, .int (nI CM)])), (aS, .inl (cy 2, 89, .inl (encT N v h pl me M db dl du dq dw E ek eb el t1 t2 t3 t4 t5 t6)))]) [(am, .inr (12, [.ref aS, .ref aBf, .ref aAs, .ref aSv, .int iS, .ref aPa, .int (nI K), .int th, .ref aOu, .int (nI OM), .ref aTx, .int (nI LN), .int (nI PO), .int iw, .int ea, .int fa, .ref aCo, .int (nI CM)])), (aS, .inl (cy 2, 89, .inl (encT (N + 1) (upd v N 0) (upd h N 0) (upd pl N 1) (upd me N 0) M db dl du dq dw E ek eb el t1 t2 t3 t4 t5 t6)))] := hD
              refine lv_iload_n hx hb dX8_doAddBath_48 rfl (lv_at hl 1 rfl) ?_
              exact wc_iret hx hb hr hlocks hP hS rfl dX8_doAddBath_49
            · exact absurd c_7 (by decide)
  · have k_8 : N = 5 := (m_eqN (a := N) (b := 5) rfl rfl (by omega) (by omega)).mp c_1
    exact absurd hF (by simp [c_1, k_8])

set_option maxRecDepth 100000 in
set_option maxHeartbeats 1000000 in
theorem c_X8_doAddBath_no (l : Launch) (G : va_G) (cy : Nat → ClassId) (am aS aBf aAs aSv aPa aOu aTx aCo K OM LN PO CM : Nat) (iS th iw ea fa : Int32) (N : Nat) (v h pl me : Nat → Int32) (M : Nat) (db dl du dq dw : Nat → Int32) (E : Nat) (ek eb el : Nat → Int32) (t1 t2 t3 t4 t5 t6 : Int32) (hN : N ≤ 5) (hF : ¬ (if N < 5 then (0 : Int32) else 3) = 0) : WC l yX8_doAddBath wsX8_doAddBath { frames := 1, cells := 0, slots := 0, locals := 21 } G (PB G cy [(am, .inr (12, [.ref aS, .ref aBf, .ref aAs, .ref aSv, .int iS, .ref aPa, .int (nI K), .int th, .ref aOu, .int (nI OM), .ref aTx, .int (nI LN), .int (nI PO), .int iw, .int ea, .int fa, .ref aCo, .int (nI CM)])), (aS, .inl (cy 2, 89, .inl (encT N v h pl me M db dl du dq dw E ek eb el t1 t2 t3 t4 t5 t6)))]) [.ref am] [(am, .inr (12, [.ref aS, .ref aBf, .ref aAs, .ref aSv, .int iS, .ref aPa, .int (nI K), .int th, .ref aOu, .int (nI OM), .ref aTx, .int (nI LN), .int (nI PO), .int iw, .int ea, .int fa, .ref aCo, .int (nI CM)])), (aS, .inl (cy 2, 89, .inl (encT N v h pl me M db dl du dq dw E ek eb el t1 t2 t3 t4 t5 t6)))] [(am, .inr (12, [.ref aS, .ref aBf, .ref aAs, .ref aSv, .int iS, .ref aPa, .int (nI K), .int 1, .ref aOu, .int (nI OM), .ref aTx, .int (nI LN), .int (nI PO), .int iw, .int ea, .int fa, .ref aCo, .int (nI CM)])), (aS, .inl (cy 2, 89, .inl (encT N v h pl me M db dl du dq dw E ek eb el t1 t2 t3 t4 t5 t6)))] (some (.int 0)) := by
  refine WC.ofW (cc := cX8_doAddBath) (maxL := 3) (ret := (some .int)) (by decide) rfl (Nat.le_of_ble_eq_true rfl) ?_
  intro p e s m below meth c S9 hr hlocks hPB hD hS ls hl
  obtain ⟨hx, hb, hml, hown, hts⟩ := id S9
  obtain ⟨hP, hK⟩ := hPB
  have hl : lv_has ls 3 [(0, .ref am)] := hl
  have hi12 : ∀ w ∈ wsX80, w ∈ wsX8_doAddBath := by decide +kernel
  have hf9 := hts (.fieldLink RX8 9 "BathLeagueModel" "s" "[I") (by decide +kernel)
  refine lv_aload_n hx hb dX8_doAddBath_0 rfl (lv_at hl 0 rfl) ?_
  refine va_get (D := G) (ci := 12) (v := .ref aS) (C := RX8) (T := TX8) (N := 18) hx hb hts hi12 hown hK.1 hP 0 rfl rfl 0 (by decide) hf9 (fun _ h9 => h9) rfl dX8_doAddBath_1 ?_
  refine lv_iconst (v := 0) hx hb dX8_doAddBath_4 (by decide) ?_
  refine m_iald hx hb hK hP 1 (k := 0) rfl rfl (by omega) (Nat.le_of_ble_eq_true rfl) dX8_doAddBath_5 ?_
  refine lv_t0 (encR_0 rfl) ?_
  refine lv_istore_n (lv' := [(1, .int (nI N)), (0, .ref am)]) hx hb dX8_doAddBath_6 rfl hl (by decide) rfl (fun ls hl => ?_)
  refine lv_iload_n hx hb dX8_doAddBath_7 rfl (lv_at hl 0 rfl) ?_
  refine lv_iconst (v := 5) hx hb dX8_doAddBath_8 (by decide) ?_
  refine lv_icmp_ne (tgt := 18) hx hb dX8_doAddBath_9 (by decide) (fun c_1 => ?_) (fun c_1 => ?_)
  · have k_2 : ¬ (N = 5) := fun z => c_1 ((m_eqN (a := N) (b := 5) rfl rfl (by omega) (by omega)).mpr z)
    exact absurd (if_pos (show N < 5 by omega)) hF
  · have k_3 : N = 5 := (m_eqN (a := N) (b := 5) rfl rfl (by omega) (by omega)).mp c_1
    refine lv_aload_n hx hb dX8_doAddBath_12 rfl (lv_at hl 1 rfl) ?_
    refine lv_iconst (v := 1) hx hb dX8_doAddBath_13 (by decide) ?_
    refine c_wcVi (ws' := [(am, .inr (12, [.ref aS, .ref aBf, .ref aAs, .ref aSv, .int iS, .ref aPa, .int (nI K), .int 1, .ref aOu, .int (nI OM), .ref aTx, .int (nI LN), .int (nI PO), .int iw, .int ea, .int fa, .ref aCo, .int (nI CM)])), (aS, .inl (cy 2, 89, .inl (encT N v h pl me M db dl du dq dw E ek eb el t1 t2 t3 t4 t5 t6)))]) S9 (c_X8_fails l G cy am aS aBf aAs aSv aPa aOu aTx aCo K OM LN PO CM iS th iw ea fa N v h pl me M db dl du dq dw E ek eb el t1 t2 t3 t4 t5 t6 1) (cwV 1 hts gX8_doAddBath_X8_fails rfl rfl rfl (by decide +kernel) ⟨Nat.le_of_ble_eq_true rfl, Nat.le_of_ble_eq_true rfl⟩) PB.blind (va_recv hK.1 hP (ci := 12) (q0 := 0) rfl rfl) (PB.at hK (m_Ppart hP [0, 1] rfl)) hP hD hS [0, 1] rfl rfl m_f2 rfl rfl hl.1 rfl (Nat.le_of_ble_eq_true rfl) ⟨Nat.zero_le _, Nat.zero_le _⟩ dX8_doAddBath_14 (fun H locs hP hD hS => ?_)
    exact wc_iret hx hb hr hlocks hP hS rfl dX8_doAddBath_17
