set_option maxRecDepth 100000 in
set_option maxHeartbeats 1000000 in
theorem c_X1_isPleased (l : Launch) (G : va_G) (cy : Nat → ClassId) (aD aDb aDl aDh aDq aDw M : Nat) (db dl dh dq dw : Nat → Int32) (aB aV aH aP aM N : Nat) (v h pl me : Nat → Int32) (k : Nat) (hk : k < 6) (hd : dOK (db k)) : RO l yX1_isPleased wsX1_isPleased { frames := 1, cells := 0, slots := 0, locals := 21 } (PB G cy [(aD, .inr (5, [.int (nI M), .ref aDb, .ref aDl, .ref aDh, .ref aDq, .ref aDw])), (aDb, .inl (cy 2, 6, .inl db)), (aDl, .inl (cy 2, 6, .inl dl)), (aDh, .inl (cy 2, 6, .inl dh)), (aDq, .inl (cy 2, 6, .inl dq)), (aDw, .inl (cy 3, 6, .inl dw)), (aB, .inr (4, [.int (nI N), .ref aV, .ref aH, .ref aP, .ref aM])), (aV, .inl (cy 2, 5, .inl v)), (aH, .inl (cy 2, 5, .inl h)), (aP, .inl (cy 3, 5, .inl pl)), (aM, .inl (cy 3, 5, .inl me))]) [.ref aD, .int (nI k), .ref aB] (some (.int (if plz v h db dl dh k = true then 1 else 0))) := by
  refine RO.ofW (cc := cX1_isPleased) (maxL := 5) (ret := (some .boolean)) (by decide) rfl (Nat.le_of_ble_eq_true rfl) ?_
  intro p e s m below meth c S9 hr hlocks hPB ls hl
  obtain ⟨hx, hb, hml, hown, hts⟩ := id S9
  obtain ⟨hP, hK⟩ := hPB
  have hl : lv_has ls 5 [(0, .ref aD), (1, .int (nI k)), (2, .ref aB)] := hl
  have hi4 : ∀ w ∈ wsX00, w ∈ wsX1_isPleased := by decide +kernel
  have hi5 : ∀ w ∈ wsX10, w ∈ wsX1_isPleased := by decide +kernel
  have hf15 := hts (.fieldLink RX1 15 "BathLeague$Ducks" "bath" "[I") (by decide +kernel)
  have hf19 := hts (.fieldLink RX1 19 "BathLeague$Ducks" "low" "[I") (by decide +kernel)
  have hf22 := hts (.fieldLink RX1 22 "BathLeague$Ducks" "high" "[I") (by decide +kernel)
  have hf32 := hts (.fieldLink RX1 32 "BathLeague$Baths" "heat" "[I") (by decide +kernel)
  have hf37 := hts (.fieldLink RX1 37 "BathLeague$Baths" "volume" "[I") (by decide +kernel)
  have hd2 := hd.2
  refine lv_aload_n hx hb dX1_isPleased_0 rfl (lv_at hl 0 rfl) ?_
  refine va_get (D := G) (ci := 5) (v := .ref aDb) (C := RX1) (T := TX1) (N := 6) hx hb hts hi5 hown hK.1 hP 0 rfl rfl 1 (by decide) hf15 (fun _ h9 => h9) rfl dX1_isPleased_1 ?_
  refine lv_iload_n hx hb dX1_isPleased_4 rfl (lv_at hl 1 rfl) ?_
  refine m_iald hx hb hK hP 1 (k := k) rfl rfl (by omega) (Nat.le_of_ble_eq_true rfl) dX1_isPleased_5 ?_
  refine lv_istore_n (lv' := [(3, .int (db k)), (0, .ref aD), (1, .int (nI k)), (2, .ref aB)]) hx hb dX1_isPleased_6 rfl hl (by decide) rfl (fun ls hl => ?_)
  refine lv_aload_n hx hb dX1_isPleased_7 rfl (lv_at hl 3 rfl) ?_
  refine va_get (D := G) (ci := 4) (v := .ref aH) (C := RX0) (T := TX0) (N := 5) hx hb hts hi4 hown hK.1 hP 6 rfl rfl 2 (by decide) hf32 (fun _ h9 => h9) rfl dX1_isPleased_8 ?_
  refine lv_iload_n hx hb dX1_isPleased_11 rfl (lv_at hl 0 rfl) ?_
  refine m_iald hx hb hK hP 8 (k := bx (db k)) rfl hd.1 (by omega) (Nat.le_of_ble_eq_true rfl) dX1_isPleased_12 ?_
  refine lv_aload_n hx hb dX1_isPleased_13 rfl (lv_at hl 3 rfl) ?_
  refine va_get (D := G) (ci := 4) (v := .ref aV) (C := RX0) (T := TX0) (N := 5) hx hb hts hi4 hown hK.1 hP 6 rfl rfl 1 (by decide) hf37 (fun _ h9 => h9) rfl dX1_isPleased_14 ?_
  refine lv_iload_n hx hb dX1_isPleased_17 rfl (lv_at hl 0 rfl) ?_
  refine m_iald hx hb hK hP 7 (k := bx (db k)) rfl hd.1 (by omega) (Nat.le_of_ble_eq_true rfl) dX1_isPleased_18 ?_
  refine c_roSNi S9 (c_X7_roundedDegrees l G cy (h (bx (db k))) (v (bx (db k)))) ⟨va_cnB 2 hts gX1_isPleased_X7_roundedDegrees_n40 rfl rfl rfl (hK.nest 1 rfl) (hts (.initialized RX7) (by decide +kernel)) (by decide +kernel) ⟨Nat.le_of_ble_eq_true rfl, Nat.le_of_ble_eq_true rfl⟩, hts (.static yX7_roundedDegrees) (by decide +kernel), trivial⟩ PB.blind (PB.at hK (m_Ppart hP [] rfl)) rfl hl.1 rfl (Nat.le_of_ble_eq_true rfl) ⟨Nat.zero_le _, Nat.zero_le _⟩ dX1_isPleased_19 ?_
  refine lv_istore (lv' := [(4, .int (rdeg (h (bx (db k))) (v (bx (db k))))), (3, .int (db k)), (0, .ref aD), (1, .int (nI k)), (2, .ref aB)]) hx hb dX1_isPleased_22 hl (by decide) rfl (fun ls hl => ?_)
  refine lv_aload_n hx hb dX1_isPleased_24 rfl (lv_at hl 4 rfl) ?_
  refine lv_iload_n hx hb dX1_isPleased_25 rfl (lv_at hl 1 rfl) ?_
  refine lv_t0 (show db k = nI (bx (db k)) from hd.1) ?_
  refine c_roVi S9 (c_X0_hasWater l G cy aB aV aH aP aM N v h pl me (bx (db k)) (by omega)) (cwV 1 hts gX1_isPleased_X0_hasWater rfl rfl rfl (by decide +kernel) ⟨Nat.le_of_ble_eq_true rfl, Nat.le_of_ble_eq_true rfl⟩) PB.blind (va_recv hK.1 hP (ci := 4) (q0 := 6) rfl rfl) (PB.at hK (m_Ppart hP [6, 7, 8, 9, 10] rfl)) rfl hl.1 rfl (Nat.le_of_ble_eq_true rfl) ⟨Nat.zero_le _, Nat.zero_le _⟩ dX1_isPleased_26 ?_
  refine lv_if_eq (tgt := 58) hx hb dX1_isPleased_29 (by decide) (fun c_1 => ?_) (fun c_1 => ?_)
  · have b_2 : ¬ (wet v (bx (db k)) = true) := m_ite0.mp c_1
    refine lv_iconst (v := 0) hx hb dX1_isPleased_58 (by decide) ?_
    exact ro_zret hx hb hr hlocks (by first | rfl | (split <;> rfl)) (by simp [plz, b_2]) dX1_isPleased_59
  · have b_3 : wet v (bx (db k)) = true := m_ite1.mp c_1
    refine lv_iload hx hb dX1_isPleased_32 (lv_at hl 0 rfl) ?_
    refine lv_aload_n hx hb dX1_isPleased_34 rfl (lv_at hl 2 rfl) ?_
    refine va_get (D := G) (ci := 5) (v := .ref aDl) (C := RX1) (T := TX1) (N := 6) hx hb hts hi5 hown hK.1 hP 0 rfl rfl 2 (by decide) hf19 (fun _ h9 => h9) rfl dX1_isPleased_35 ?_
    refine lv_iload_n hx hb dX1_isPleased_38 rfl (lv_at hl 3 rfl) ?_
    refine m_iald hx hb hK hP 2 (k := k) rfl rfl (by omega) (Nat.le_of_ble_eq_true rfl) dX1_isPleased_39 ?_
    refine lv_icmp_lt (tgt := 58) hx hb dX1_isPleased_40 (by decide) (fun c_4 => ?_) (fun c_4 => ?_)
    · have c_4' : ¬ (dl k) ≤ (rdeg (h (bx (db k))) (v (bx (db k)))) := Int32.not_le.mpr c_4
      refine lv_iconst (v := 0) hx hb dX1_isPleased_58 (by decide) ?_
      exact ro_zret hx hb hr hlocks (by first | rfl | (split <;> rfl)) (by simp [plz, b_3, c_4', c_4]) dX1_isPleased_59
    · have c_4' : (dl k) ≤ (rdeg (h (bx (db k))) (v (bx (db k)))) := Int32.not_lt.mp c_4
      refine lv_iload hx hb dX1_isPleased_43 (lv_at hl 0 rfl) ?_
      refine lv_aload_n hx hb dX1_isPleased_45 rfl (lv_at hl 2 rfl) ?_
      refine va_get (D := G) (ci := 5) (v := .ref aDh) (C := RX1) (T := TX1) (N := 6) hx hb hts hi5 hown hK.1 hP 0 rfl rfl 3 (by decide) hf22 (fun _ h9 => h9) rfl dX1_isPleased_46 ?_
      refine lv_iload_n hx hb dX1_isPleased_49 rfl (lv_at hl 3 rfl) ?_
      refine m_iald hx hb hK hP 3 (k := k) rfl rfl (by omega) (Nat.le_of_ble_eq_true rfl) dX1_isPleased_50 ?_
      refine lv_icmp_gt (tgt := 58) hx hb dX1_isPleased_51 (by decide) (fun c_5 => ?_) (fun c_5 => ?_)
      · have c_5' : ¬ (rdeg (h (bx (db k))) (v (bx (db k)))) ≤ (dh k) := Int32.not_le.mpr c_5
        refine lv_iconst (v := 0) hx hb dX1_isPleased_58 (by decide) ?_
        exact ro_zret hx hb hr hlocks (by first | rfl | (split <;> rfl)) (by simp [plz, b_3, c_4', c_4, c_5', c_5]) dX1_isPleased_59
      · have c_5' : (rdeg (h (bx (db k))) (v (bx (db k)))) ≤ (dh k) := Int32.not_lt.mp c_5
        refine lv_iconst (v := 1) hx hb dX1_isPleased_54 (by decide) ?_
        refine lv_goto (tgt := 59) hx hb dX1_isPleased_55 (by decide) ?_
        exact ro_zret hx hb hr hlocks (by first | rfl | (split <;> rfl)) (by simp [plz, b_3, c_4', c_4, c_5', c_5]) dX1_isPleased_59

set_option maxRecDepth 100000 in
set_option maxHeartbeats 1000000 in
theorem c_X1_pleasedCount (l : Launch) (G : va_G) (cy : Nat → ClassId) (aD aDb aDl aDh aDq aDw M : Nat) (db dl dh dq dw : Nat → Int32) (aB aV aH aP aM N : Nat) (v h pl me : Nat → Int32) (hM : M ≤ 6) (hdd : ∀ j, j < M → dOK (db j)) : RO l yX1_pleasedCount wsX1_pleasedCount { frames := 2, cells := 0, slots := 0, locals := 45 } (PB G cy [(aD, .inr (5, [.int (nI M), .ref aDb, .ref aDl, .ref aDh, .ref aDq, .ref aDw])), (aDb, .inl (cy 2, 6, .inl db)), (aDl, .inl (cy 2, 6, .inl dl)), (aDh, .inl (cy 2, 6, .inl dh)), (aDq, .inl (cy 2, 6, .inl dq)), (aDw, .inl (cy 3, 6, .inl dw)), (aB, .inr (4, [.int (nI N), .ref aV, .ref aH, .ref aP, .ref aM])), (aV, .inl (cy 2, 5, .inl v)), (aH, .inl (cy 2, 5, .inl h)), (aP, .inl (cy 3, 5, .inl pl)), (aM, .inl (cy 3, 5, .inl me))]) [.ref aD, .ref aB] (some (.int (cntP (plz v h db dl dh) M))) := by
  refine RO.ofW (cc := cX1_pleasedCount) (maxL := 4) (ret := (some .int)) (by decide) rfl (Nat.le_of_ble_eq_true rfl) ?_
  intro p e s m below meth c S9 hr hlocks hPB ls hl
  obtain ⟨hx, hb, hml, hown, hts⟩ := id S9
  obtain ⟨hP, hK⟩ := hPB
  have hl : lv_has ls 4 [(0, .ref aD), (1, .ref aB)] := hl
  have hi5 : ∀ w ∈ wsX10, w ∈ wsX1_pleasedCount := by decide +kernel
  have hf9 := hts (.fieldLink RX1 9 "BathLeague$Ducks" "count" "I") (by decide +kernel)
  refine lv_iconst (v := 0) hx hb dX1_pleasedCount_0 (by decide) ?_
  refine lv_istore_n (lv' := [(2, .int 0), (0, .ref aD), (1, .ref aB)]) hx hb dX1_pleasedCount_1 rfl hl (by decide) rfl (fun ls hl => ?_)
  refine lv_iconst (v := 0) hx hb dX1_pleasedCount_2 (by decide) ?_
  refine lv_istore_n (lv' := [(3, .int 0), (2, .int 0), (0, .ref aD), (1, .ref aB)]) hx hb dX1_pleasedCount_3 rfl hl (by decide) rfl (fun ls hl => ?_)
  have L_1 : ∀ (d k : Nat), k + d = M → ∀ ls : Array Slot, lv_has ls 4 [(0, .ref aD), (1, .ref aB), (2, .int (cntP (plz v h db dl dh) k)), (3, .int (nI k))] → W p l e ({ frames := 2, cells := 0, slots := 0, locals := 45 } : Room) s m ([.ref aD, .ref aB] : List Value).toArray below meth c s.heap [] 0 0 (roZ below ([.ref aD, .ref aB] : List Value).toArray s (some (.int (cntP (plz v h db dl dh) M)))) (F0 m 4 ls []) := by
    intro d
    induction d with
    | zero =>
      intro k hkk ls hl
      refine lv_iload_n hx hb dX1_pleasedCount_4 rfl (lv_at hl 3 rfl) ?_
      refine lv_aload_n hx hb dX1_pleasedCount_5 rfl (lv_at hl 0 rfl) ?_
      refine va_get (D := G) (ci := 5) (v := .int (nI M)) (C := RX1) (T := TX1) (N := 6) hx hb hts hi5 hown hK.1 hP 0 rfl rfl 0 (by decide) hf9 (fun _ h9 => h9) rfl dX1_pleasedCount_6 ?_
      refine lv_icmp_ge (tgt := 30) hx hb dX1_pleasedCount_9 (by decide) (fun c_2 => ?_) (fun c_2 => ?_)
      · have k_3 : M ≤ k := (m_leN (a := M) (b := k) rfl rfl (by omega) (by omega)).mp c_2
        have k_3' : ¬ (k < M) := by omega
        refine lv_iload_n hx hb dX1_pleasedCount_30 rfl (lv_at hl 2 rfl) ?_
        exact ro_iret hx hb hr hlocks (by rw [show k = M by omega]) dX1_pleasedCount_31
      · have k_4 : ¬ (M ≤ k) := fun z => c_2 ((m_leN (a := M) (b := k) rfl rfl (by omega) (by omega)).mpr z)
        have k_4' : k < M := by omega
        exfalso; omega
    | succ d ih =>
      intro k hkk ls hl
      refine lv_iload_n hx hb dX1_pleasedCount_4 rfl (lv_at hl 3 rfl) ?_
      refine lv_aload_n hx hb dX1_pleasedCount_5 rfl (lv_at hl 0 rfl) ?_
      refine va_get (D := G) (ci := 5) (v := .int (nI M)) (C := RX1) (T := TX1) (N := 6) hx hb hts hi5 hown hK.1 hP 0 rfl rfl 0 (by decide) hf9 (fun _ h9 => h9) rfl dX1_pleasedCount_6 ?_
      refine lv_icmp_ge (tgt := 30) hx hb dX1_pleasedCount_9 (by decide) (fun c_5 => ?_) (fun c_5 => ?_)
      · have k_6 : M ≤ k := (m_leN (a := M) (b := k) rfl rfl (by omega) (by omega)).mp c_5
        have k_6' : ¬ (k < M) := by omega
        exfalso; omega
      · have k_7 : ¬ (M ≤ k) := fun z => c_5 ((m_leN (a := M) (b := k) rfl rfl (by omega) (by omega)).mpr z)
        have k_7' : k < M := by omega
        refine lv_aload_n hx hb dX1_pleasedCount_12 rfl (lv_at hl 0 rfl) ?_
        refine lv_iload_n hx hb dX1_pleasedCount_13 rfl (lv_at hl 3 rfl) ?_
        refine lv_aload_n hx hb dX1_pleasedCount_14 rfl (lv_at hl 1 rfl) ?_
        refine c_roVi S9 (c_X1_isPleased l G cy aD aDb aDl aDh aDq aDw M db dl dh dq dw aB aV aH aP aM N v h pl me k (by omega) (hdd _ (by omega))) (cwV 2 hts gX1_pleasedCount_X1_isPleased rfl rfl rfl (by decide +kernel) ⟨Nat.le_of_ble_eq_true rfl, Nat.le_of_ble_eq_true rfl⟩) PB.blind (va_recv hK.1 hP (ci := 5) (q0 := 0) rfl rfl) (PB.at hK (m_Ppart hP [0, 1, 2, 3, 4, 5, 6, 7, 8, 9, 10] rfl)) rfl hl.1 rfl (Nat.le_of_ble_eq_true rfl) ⟨Nat.zero_le _, Nat.zero_le _⟩ dX1_pleasedCount_15 ?_
        refine lv_if_eq (tgt := 24) hx hb dX1_pleasedCount_18 (by decide) (fun c_8 => ?_) (fun c_8 => ?_)
        · have b_9 : ¬ (plz v h db dl dh k = true) := m_ite0.mp c_8
          refine lv_iinc (v := nI (k + 1)) (lv' := [(3, .int (nI (k + 1))), (0, .ref aD), (1, .ref aB), (2, .int (cntP (plz v h db dl dh) k))]) hx hb dX1_pleasedCount_24 hl (k := 3) rfl (m_inc _) (by decide) rfl (fun ls hl => ?_)
          refine lv_goto (tgt := 4) hx hb dX1_pleasedCount_27 (by decide) ?_
          have e_10 : cntP (plz v h db dl dh) (k + 1) = cntP (plz v h db dl dh) k := (by simp [cntP, c_5, b_9])
          exact ih (k + 1) (by omega) ls (by rw [e_10]; exact lv_sub hl [1, 2, 3, 0] rfl)
        · have b_11 : plz v h db dl dh k = true := m_ite1.mp c_8
          refine lv_iinc (v := (cntP (plz v h db dl dh) k) + 1) (lv' := [(2, .int ((cntP (plz v h db dl dh) k) + 1)), (0, .ref aD), (1, .ref aB), (3, .int (nI k))]) hx hb dX1_pleasedCount_21 hl (k := 2) rfl rfl (by decide) rfl (fun ls hl => ?_)
          refine lv_iinc (v := nI (k + 1)) (lv' := [(3, .int (nI (k + 1))), (2, .int ((cntP (plz v h db dl dh) k) + 1)), (0, .ref aD), (1, .ref aB)]) hx hb dX1_pleasedCount_24 hl (k := 3) rfl (m_inc _) (by decide) rfl (fun ls hl => ?_)
          refine lv_goto (tgt := 4) hx hb dX1_pleasedCount_27 (by decide) ?_
          have e_12 : cntP (plz v h db dl dh) (k + 1) = (cntP (plz v h db dl dh) k) + 1 := (by simp [cntP, c_5, b_11])
          exact ih (k + 1) (by omega) ls (by rw [e_12]; exact lv_sub hl [2, 3, 1, 0] rfl)
  exact L_1 M 0 (by omega) ls (lv_sub hl [2, 3, 1, 0] rfl)

set_option maxRecDepth 100000 in
set_option maxHeartbeats 1000000 in
theorem c_X1_observe (l : Launch) (G : va_G) (cy : Nat → ClassId) (aD aDb aDl aDh aDq aDw M : Nat) (db dl dh dq dw : Nat → Int32) (aB aV aH aP aM N : Nat) (v h pl me : Nat → Int32) (hM : M ≤ 6) (hdd : ∀ j, j < M → dOK (db j)) : WC l yX1_observe wsX1_observe { frames := 2, cells := 0, slots := 0, locals := 45 } G (PB G cy [(aD, .inr (5, [.int (nI M), .ref aDb, .ref aDl, .ref aDh, .ref aDq, .ref aDw])), (aDb, .inl (cy 2, 6, .inl db)), (aDl, .inl (cy 2, 6, .inl dl)), (aDh, .inl (cy 2, 6, .inl dh)), (aDq, .inl (cy 2, 6, .inl dq)), (aDw, .inl (cy 3, 6, .inl dw)), (aB, .inr (4, [.int (nI N), .ref aV, .ref aH, .ref aP, .ref aM])), (aV, .inl (cy 2, 5, .inl v)), (aH, .inl (cy 2, 5, .inl h)), (aP, .inl (cy 3, 5, .inl pl)), (aM, .inl (cy 3, 5, .inl me))]) [.ref aD, .ref aB] [(aD, .inr (5, [.int (nI M), .ref aDb, .ref aDl, .ref aDh, .ref aDq, .ref aDw])), (aDb, .inl (cy 2, 6, .inl db)), (aDl, .inl (cy 2, 6, .inl dl)), (aDh, .inl (cy 2, 6, .inl dh)), (aDq, .inl (cy 2, 6, .inl dq)), (aDw, .inl (cy 3, 6, .inl dw)), (aB, .inr (4, [.int (nI N), .ref aV, .ref aH, .ref aP, .ref aM])), (aV, .inl (cy 2, 5, .inl v)), (aH, .inl (cy 2, 5, .inl h)), (aP, .inl (cy 3, 5, .inl pl)), (aM, .inl (cy 3, 5, .inl me))] [(aD, .inr (5, [.int (nI M), .ref aDb, .ref aDl, .ref aDh, .ref aDq, .ref aDw])), (aDb, .inl (cy 2, 6, .inl db)), (aDl, .inl (cy 2, 6, .inl dl)), (aDh, .inl (cy 2, 6, .inl dh)), (aDq, .inl (cy 2, 6, .inl (obsQ (plz v h db dl dh) dq dw M))), (aDw, .inl (cy 3, 6, .inl (obsW (plz v h db dl dh) dw M))), (aB, .inr (4, [.int (nI N), .ref aV, .ref aH, .ref aP, .ref aM])), (aV, .inl (cy 2, 5, .inl v)), (aH, .inl (cy 2, 5, .inl h)), (aP, .inl (cy 3, 5, .inl pl)), (aM, .inl (cy 3, 5, .inl me))] (none) := by
  refine WC.ofW (cc := cX1_observe) (maxL := 4) (ret := none) (by decide) rfl (Nat.le_of_ble_eq_true rfl) ?_
  intro p e s m below meth c S9 hr hlocks hPB hD hS ls hl
  obtain ⟨hx, hb, hml, hown, hts⟩ := id S9
  obtain ⟨hP, hK⟩ := hPB
  have hl : lv_has ls 4 [(0, .ref aD), (1, .ref aB)] := hl
  have hi5 : ∀ w ∈ wsX10, w ∈ wsX1_observe := by decide +kernel
  have hf9 := hts (.fieldLink RX1 9 "BathLeague$Ducks" "count" "I") (by decide +kernel)
  have hf25 := hts (.fieldLink RX1 25 "BathLeague$Ducks" "quackCount" "[I") (by decide +kernel)
  have hf28 := hts (.fieldLink RX1 28 "BathLeague$Ducks" "wasPleased" "[Z") (by decide +kernel)
  refine lv_iconst (v := 0) hx hb dX1_observe_0 (by decide) ?_
  refine lv_istore_n (lv' := [(2, .int 0), (0, .ref aD), (1, .ref aB)]) hx hb dX1_observe_1 rfl hl (by decide) rfl (fun ls hl => ?_)
  have L_1 : ∀ (d k : Nat), k + d = M → ∀ (H : Heap) (locs : List Loc), va_P G vwCl [(aD, .inr (5, [.int (nI M), .ref aDb, .ref aDl, .ref aDh, .ref aDq, .ref aDw])), (aDb, .inl (cy 2, 6, .inl db)), (aDl, .inl (cy 2, 6, .inl dl)), (aDh, .inl (cy 2, 6, .inl dh)), (aDq, .inl (cy 2, 6, .inl (obsQ (plz v h db dl dh) dq dw k))), (aDw, .inl (cy 3, 6, .inl (obsW (plz v h db dl dh) dw k))), (aB, .inr (4, [.int (nI N), .ref aV, .ref aH, .ref aP, .ref aM])), (aV, .inl (cy 2, 5, .inl v)), (aH, .inl (cy 2, 5, .inl h)), (aP, .inl (cy 3, 5, .inl pl)), (aM, .inl (cy 3, 5, .inl me))] H → va_D (wA [(aD, .inr (5, [.int (nI M), .ref aDb, .ref aDl, .ref aDh, .ref aDq, .ref aDw])), (aDb, .inl (cy 2, 6, .inl db)), (aDl, .inl (cy 2, 6, .inl dl)), (aDh, .inl (cy 2, 6, .inl dh)), (aDq, .inl (cy 2, 6, .inl dq)), (aDw, .inl (cy 3, 6, .inl dw)), (aB, .inr (4, [.int (nI N), .ref aV, .ref aH, .ref aP, .ref aM])), (aV, .inl (cy 2, 5, .inl v)), (aH, .inl (cy 2, 5, .inl h)), (aP, .inl (cy 3, 5, .inl pl)), (aM, .inl (cy 3, 5, .inl me))]) [(aD, .inr (5, [.int (nI M), .ref aDb, .ref aDl, .ref aDh, .ref aDq, .ref aDw])), (aDb, .inl (cy 2, 6, .inl db)), (aDl, .inl (cy 2, 6, .inl dl)), (aDh, .inl (cy 2, 6, .inl dh)), (aDq, .inl (cy 2, 6, .inl (obsQ (plz v h db dl dh) dq dw k))), (aDw, .inl (cy 3, 6, .inl (obsW (plz v h db dl dh) dw k))), (aB, .inr (4, [.int (nI N), .ref aV, .ref aH, .ref aP, .ref aM])), (aV, .inl (cy 2, 5, .inl v)), (aH, .inl (cy 2, 5, .inl h)), (aP, .inl (cy 3, 5, .inl pl)), (aM, .inl (cy 3, 5, .inl me))] → va_S (wA [(aD, .inr (5, [.int (nI M), .ref aDb, .ref aDl, .ref aDh, .ref aDq, .ref aDw])), (aDb, .inl (cy 2, 6, .inl db)), (aDl, .inl (cy 2, 6, .inl dl)), (aDh, .inl (cy 2, 6, .inl dh)), (aDq, .inl (cy 2, 6, .inl dq)), (aDw, .inl (cy 3, 6, .inl dw)), (aB, .inr (4, [.int (nI N), .ref aV, .ref aH, .ref aP, .ref aM])), (aV, .inl (cy 2, 5, .inl v)), (aH, .inl (cy 2, 5, .inl h)), (aP, .inl (cy 3, 5, .inl pl)), (aM, .inl (cy 3, 5, .inl me))]) s.heap H locs → ∀ ls : Array Slot, lv_has ls 4 [(0, .ref aD), (1, .ref aB), (2, .int (nI k))] → W p l e ({ frames := 2, cells := 0, slots := 0, locals := 45 } : Room) s m ([.ref aD, .ref aB] : List Value).toArray below meth c H locs 0 0 (wcZ below ([.ref aD, .ref aB] : List Value).toArray s G [(aD, .inr (5, [.int (nI M), .ref aDb, .ref aDl, .ref aDh, .ref aDq, .ref aDw])), (aDb, .inl (cy 2, 6, .inl db)), (aDl, .inl (cy 2, 6, .inl dl)), (aDh, .inl (cy 2, 6, .inl dh)), (aDq, .inl (cy 2, 6, .inl dq)), (aDw, .inl (cy 3, 6, .inl dw)), (aB, .inr (4, [.int (nI N), .ref aV, .ref aH, .ref aP, .ref aM])), (aV, .inl (cy 2, 5, .inl v)), (aH, .inl (cy 2, 5, .inl h)), (aP, .inl (cy 3, 5, .inl pl)), (aM, .inl (cy 3, 5, .inl me))] [(aD, .inr (5, [.int (nI M), .ref aDb, .ref aDl, .ref aDh, .ref aDq, .ref aDw])), (aDb, .inl (cy 2, 6, .inl db)), (aDl, .inl (cy 2, 6, .inl dl)), (aDh, .inl (cy 2, 6, .inl dh)), (aDq, .inl (cy 2, 6, .inl (obsQ (plz v h db dl dh) dq dw M))), (aDw, .inl (cy 3, 6, .inl (obsW (plz v h db dl dh) dw M))), (aB, .inr (4, [.int (nI N), .ref aV, .ref aH, .ref aP, .ref aM])), (aV, .inl (cy 2, 5, .inl v)), (aH, .inl (cy 2, 5, .inl h)), (aP, .inl (cy 3, 5, .inl pl)), (aM, .inl (cy 3, 5, .inl me))] (none)) (F0 m 2 ls []) := by
    intro d
    induction d with
    | zero =>
      intro k hkk H locs hP hD hS ls hl
      refine lv_iload_n hx hb dX1_observe_2 rfl (lv_at hl 2 rfl) ?_
      refine lv_aload_n hx hb dX1_observe_3 rfl (lv_at hl 0 rfl) ?_
      refine va_get (D := G) (ci := 5) (v := .int (nI M)) (C := RX1) (T := TX1) (N := 6) hx hb hts hi5 hown hK.1 hP 0 rfl rfl 0 (by decide) hf9 (fun _ h9 => h9) rfl dX1_observe_4 ?_
      refine lv_icmp_ge (tgt := 53) hx hb dX1_observe_7 (by decide) (fun c_2 => ?_) (fun c_2 => ?_)
      · have k_3 : M ≤ k := (m_leN (a := M) (b := k) rfl rfl (by omega) (by omega)).mp c_2
        have k_3' : ¬ (k < M) := by omega
        have e_4 : obsQ (plz v h db dl dh) dq dw M = obsQ (plz v h db dl dh) dq dw k := (by rw [show k = M by omega])
        have e_5 : obsW (plz v h db dl dh) dw M = obsW (plz v h db dl dh) dw k := (by rw [show k = M by omega])
        exact wc_vret hx hb hr hlocks (by rw [e_4, e_5]; exact hP) hS dX1_observe_53
      · have k_6 : ¬ (M ≤ k) := fun z => c_2 ((m_leN (a := M) (b := k) rfl rfl (by omega) (by omega)).mpr z)
        have k_6' : k < M := by omega
        exfalso; omega
    | succ d ih =>
      intro k hkk H locs hP hD hS ls hl
      refine lv_iload_n hx hb dX1_observe_2 rfl (lv_at hl 2 rfl) ?_
      refine lv_aload_n hx hb dX1_observe_3 rfl (lv_at hl 0 rfl) ?_
      refine va_get (D := G) (ci := 5) (v := .int (nI M)) (C := RX1) (T := TX1) (N := 6) hx hb hts hi5 hown hK.1 hP 0 rfl rfl 0 (by decide) hf9 (fun _ h9 => h9) rfl dX1_observe_4 ?_
      refine lv_icmp_ge (tgt := 53) hx hb dX1_observe_7 (by decide) (fun c_7 => ?_) (fun c_7 => ?_)
      · have k_8 : M ≤ k := (m_leN (a := M) (b := k) rfl rfl (by omega) (by omega)).mp c_7
        have k_8' : ¬ (k < M) := by omega
        exfalso; omega
      · have k_9 : ¬ (M ≤ k) := fun z => c_7 ((m_leN (a := M) (b := k) rfl rfl (by omega) (by omega)).mpr z)
        have k_9' : k < M := by omega
        refine lv_aload_n hx hb dX1_observe_10 rfl (lv_at hl 0 rfl) ?_
        refine lv_iload_n hx hb dX1_observe_11 rfl (lv_at hl 2 rfl) ?_
        refine lv_aload_n hx hb dX1_observe_12 rfl (lv_at hl 1 rfl) ?_
        refine c_roVi S9 (c_X1_isPleased l G cy aD aDb aDl aDh aDq aDw M db dl dh (obsQ (plz v h db dl dh) dq dw k) (obsW (plz v h db dl dh) dw k) aB aV aH aP aM N v h pl me k (by omega) (hdd _ (by omega))) (cwV 2 hts gX1_observe_X1_isPleased rfl rfl rfl (by decide +kernel) ⟨Nat.le_of_ble_eq_true rfl, Nat.le_of_ble_eq_true rfl⟩) PB.blind (va_recv hK.1 hP (ci := 5) (q0 := 0) rfl rfl) (PB.at hK (m_Ppart hP [0, 1, 2, 3, 4, 5, 6, 7, 8, 9, 10] rfl)) rfl hl.1 rfl (Nat.le_of_ble_eq_true rfl) ⟨Nat.zero_le _, Nat.zero_le _⟩ dX1_observe_13 ?_
        by_cases b_10 : plz v h db dl dh k = true
        · refine lv_t0 (if_pos b_10) ?_
          refine lv_istore_n (lv' := [(3, .int 1), (0, .ref aD), (1, .ref aB), (2, .int (nI k))]) hx hb dX1_observe_16 rfl hl (by decide) rfl (fun ls hl => ?_)
          refine lv_aload_n hx hb dX1_observe_17 rfl (lv_at hl 1 rfl) ?_
          refine va_get (D := G) (ci := 5) (v := .ref aDw) (C := RX1) (T := TX1) (N := 6) hx hb hts hi5 hown hK.1 hP 0 rfl rfl 5 (by decide) hf28 (fun _ h9 => h9) rfl dX1_observe_18 ?_
          refine lv_iload_n hx hb dX1_observe_21 rfl (lv_at hl 3 rfl) ?_
          refine m_zald hx hb hK hP 5 (k := k) rfl rfl (by omega) (Nat.le_of_ble_eq_true rfl) dX1_observe_22 ?_
          refine lv_if_eq (tgt := 40) hx hb dX1_observe_23 (by decide) (fun c_11 => ?_) (fun c_11 => ?_)
          · refine lv_aload_n hx hb dX1_observe_40 rfl (lv_at hl 1 rfl) ?_
            refine va_get (D := G) (ci := 5) (v := .ref aDw) (C := RX1) (T := TX1) (N := 6) hx hb hts hi5 hown hK.1 hP 0 rfl rfl 5 (by decide) hf28 (fun _ h9 => h9) rfl dX1_observe_41 ?_
            refine lv_iload_n hx hb dX1_observe_44 rfl (lv_at hl 3 rfl) ?_
            refine lv_iload_n hx hb dX1_observe_45 rfl (lv_at hl 0 rfl) ?_
            refine m_zast hx hb hK hP hD hS 5 (k := k) rfl rfl (by omega) (Nat.le_of_ble_eq_true rfl) rfl dX1_observe_46 (fun H locs hP hD hS => ?_)
            have hP : va_P G vwCl [(aD, .inr (5, [.int (nI M), .ref aDb, .ref aDl, .ref aDh, .ref aDq, .ref aDw])), (aDb, .inl (cy 2, 6, .inl db)), (aDl, .inl (cy 2, 6, .inl dl)), (aDh, .inl (cy 2, 6, .inl dh)), (aDq, .inl (cy 2, 6, .inl (obsQ (plz v h db dl dh) dq dw k))), (aDw, .inl (cy 3, 6, .inl (upd (obsW (plz v h db dl dh) dw k) k 1))), (aB, .inr (4, [.int (nI N), .ref aV, .ref aH, .ref aP, .ref aM])), (aV, .inl (cy 2, 5, .inl v)), (aH, .inl (cy 2, 5, .inl h)), (aP, .inl (cy 3, 5, .inl pl)), (aM, .inl (cy 3, 5, .inl me))] H := hP
            have hD : va_D (wA [(aD, .inr (5, [.int (nI M), .ref aDb, .ref aDl, .ref aDh, .ref aDq, .ref aDw])), (aDb, .inl (cy 2, 6, .inl db)), (aDl, .inl (cy 2, 6, .inl dl)), (aDh, .inl (cy 2, 6, .inl dh)), (aDq, .inl (cy 2, 6, .inl dq)), (aDw, .inl (cy 3, 6, .inl dw)), (aB, .inr (4, [.int (nI N), .ref aV, .ref aH, .ref aP, .ref aM])), (aV, .inl (cy 2, 5, .inl v)), (aH, .inl (cy 2, 5, .inl h)), (aP, .inl (cy 3, 5, .inl pl)), (aM, .inl (cy 3, 5, .inl me))]) [(aD, .inr (5, [.int (nI M), .ref aDb, .ref aDl, .ref aDh, .ref aDq, .ref aDw])), (aDb, .inl (cy 2, 6, .inl db)), (aDl, .inl (cy 2, 6, .inl dl)), (aDh, .inl (cy 2, 6, .inl dh)), (aDq, .inl (cy 2, 6, .inl (obsQ (plz v h db dl dh) dq dw k))), (aDw, .inl (cy 3, 6, .inl (upd (obsW (plz v h db dl dh) dw k) k 1))), (aB, .inr (4, [.int (nI N), .ref aV, .ref aH, .ref aP, .ref aM])), (aV, .inl (cy 2, 5, .inl v)), (aH, .inl (cy 2, 5, .inl h)), (aP, .inl (cy 3, 5, .inl pl)), (aM, .inl (cy 3, 5, .inl me))] := hD
            refine lv_iinc (v := nI (k + 1)) (lv' := [(2, .int (nI (k + 1))), (3, .int 1), (0, .ref aD), (1, .ref aB)]) hx hb dX1_observe_47 hl (k := 3) rfl (m_inc _) (by decide) rfl (fun ls hl => ?_)
            refine lv_goto (tgt := 2) hx hb dX1_observe_50 (by decide) ?_
            have e_12 : obsQ (plz v h db dl dh) dq dw (k + 1) = obsQ (plz v h db dl dh) dq dw k := (by simp [obsQ, obsW, c_7, b_10, c_11])
            have e_13 : obsW (plz v h db dl dh) dw (k + 1) = upd (obsW (plz v h db dl dh) dw k) k 1 := (by simp [obsQ, obsW, c_7, b_10, c_11])
            exact ih (k + 1) (by omega) H locs (by rw [e_12, e_13]; exact hP) (m_D11 hD) hS ls (lv_sub hl [2, 3, 0] rfl)
          · refine lv_iload_n hx hb dX1_observe_26 rfl (lv_at hl 0 rfl) ?_
            refine lv_if_ne (tgt := 40) hx hb dX1_observe_27 (by decide) (fun c_14 => ?_) (fun c_14 => ?_)
            · refine lv_aload_n hx hb dX1_observe_40 rfl (lv_at hl 1 rfl) ?_
              refine va_get (D := G) (ci := 5) (v := .ref aDw) (C := RX1) (T := TX1) (N := 6) hx hb hts hi5 hown hK.1 hP 0 rfl rfl 5 (by decide) hf28 (fun _ h9 => h9) rfl dX1_observe_41 ?_
              refine lv_iload_n hx hb dX1_observe_44 rfl (lv_at hl 3 rfl) ?_
              refine lv_iload_n hx hb dX1_observe_45 rfl (lv_at hl 0 rfl) ?_
              refine m_zast hx hb hK hP hD hS 5 (k := k) rfl rfl (by omega) (Nat.le_of_ble_eq_true rfl) rfl dX1_observe_46 (fun H locs hP hD hS => ?_)
              have hP : va_P G vwCl [(aD, .inr (5, [.int (nI M), .ref aDb, .ref aDl, .ref aDh, .ref aDq, .ref aDw])), (aDb, .inl (cy 2, 6, .inl db)), (aDl, .inl (cy 2, 6, .inl dl)), (aDh, .inl (cy 2, 6, .inl dh)), (aDq, .inl (cy 2, 6, .inl (obsQ (plz v h db dl dh) dq dw k))), (aDw, .inl (cy 3, 6, .inl (upd (obsW (plz v h db dl dh) dw k) k 1))), (aB, .inr (4, [.int (nI N), .ref aV, .ref aH, .ref aP, .ref aM])), (aV, .inl (cy 2, 5, .inl v)), (aH, .inl (cy 2, 5, .inl h)), (aP, .inl (cy 3, 5, .inl pl)), (aM, .inl (cy 3, 5, .inl me))] H := hP
              have hD : va_D (wA [(aD, .inr (5, [.int (nI M), .ref aDb, .ref aDl, .ref aDh, .ref aDq, .ref aDw])), (aDb, .inl (cy 2, 6, .inl db)), (aDl, .inl (cy 2, 6, .inl dl)), (aDh, .inl (cy 2, 6, .inl dh)), (aDq, .inl (cy 2, 6, .inl dq)), (aDw, .inl (cy 3, 6, .inl dw)), (aB, .inr (4, [.int (nI N), .ref aV, .ref aH, .ref aP, .ref aM])), (aV, .inl (cy 2, 5, .inl v)), (aH, .inl (cy 2, 5, .inl h)), (aP, .inl (cy 3, 5, .inl pl)), (aM, .inl (cy 3, 5, .inl me))]) [(aD, .inr (5, [.int (nI M), .ref aDb, .ref aDl, .ref aDh, .ref aDq, .ref aDw])), (aDb, .inl (cy 2, 6, .inl db)), (aDl, .inl (cy 2, 6, .inl dl)), (aDh, .inl (cy 2, 6, .inl dh)), (aDq, .inl (cy 2, 6, .inl (obsQ (plz v h db dl dh) dq dw k))), (aDw, .inl (cy 3, 6, .inl (upd (obsW (plz v h db dl dh) dw k) k 1))), (aB, .inr (4, [.int (nI N), .ref aV, .ref aH, .ref aP, .ref aM])), (aV, .inl (cy 2, 5, .inl v)), (aH, .inl (cy 2, 5, .inl h)), (aP, .inl (cy 3, 5, .inl pl)), (aM, .inl (cy 3, 5, .inl me))] := hD
              refine lv_iinc (v := nI (k + 1)) (lv' := [(2, .int (nI (k + 1))), (3, .int 1), (0, .ref aD), (1, .ref aB)]) hx hb dX1_observe_47 hl (k := 3) rfl (m_inc _) (by decide) rfl (fun ls hl => ?_)
              refine lv_goto (tgt := 2) hx hb dX1_observe_50 (by decide) ?_
              have e_15 : obsQ (plz v h db dl dh) dq dw (k + 1) = obsQ (plz v h db dl dh) dq dw k := (by simp [obsQ, obsW, c_7, b_10, c_11])
              have e_16 : obsW (plz v h db dl dh) dw (k + 1) = upd (obsW (plz v h db dl dh) dw k) k 1 := (by simp [obsQ, obsW, c_7, b_10, c_11])
              exact ih (k + 1) (by omega) H locs (by rw [e_15, e_16]; exact hP) (m_D11 hD) hS ls (lv_sub hl [2, 3, 0] rfl)
            · exact absurd c_14 (by decide)
        · refine lv_t0 (if_neg b_10) ?_
          refine lv_istore_n (lv' := [(3, .int 0), (0, .ref aD), (1, .ref aB), (2, .int (nI k))]) hx hb dX1_observe_16 rfl hl (by decide) rfl (fun ls hl => ?_)
          refine lv_aload_n hx hb dX1_observe_17 rfl (lv_at hl 1 rfl) ?_
          refine va_get (D := G) (ci := 5) (v := .ref aDw) (C := RX1) (T := TX1) (N := 6) hx hb hts hi5 hown hK.1 hP 0 rfl rfl 5 (by decide) hf28 (fun _ h9 => h9) rfl dX1_observe_18 ?_
          refine lv_iload_n hx hb dX1_observe_21 rfl (lv_at hl 3 rfl) ?_
          refine m_zald hx hb hK hP 5 (k := k) rfl rfl (by omega) (Nat.le_of_ble_eq_true rfl) dX1_observe_22 ?_
          refine lv_if_eq (tgt := 40) hx hb dX1_observe_23 (by decide) (fun c_17 => ?_) (fun c_17 => ?_)
          · refine lv_aload_n hx hb dX1_observe_40 rfl (lv_at hl 1 rfl) ?_
            refine va_get (D := G) (ci := 5) (v := .ref aDw) (C := RX1) (T := TX1) (N := 6) hx hb hts hi5 hown hK.1 hP 0 rfl rfl 5 (by decide) hf28 (fun _ h9 => h9) rfl dX1_observe_41 ?_
            refine lv_iload_n hx hb dX1_observe_44 rfl (lv_at hl 3 rfl) ?_
            refine lv_iload_n hx hb dX1_observe_45 rfl (lv_at hl 0 rfl) ?_
            refine m_zast hx hb hK hP hD hS 5 (k := k) rfl rfl (by omega) (Nat.le_of_ble_eq_true rfl) rfl dX1_observe_46 (fun H locs hP hD hS => ?_)
            have hP : va_P G vwCl [(aD, .inr (5, [.int (nI M), .ref aDb, .ref aDl, .ref aDh, .ref aDq, .ref aDw])), (aDb, .inl (cy 2, 6, .inl db)), (aDl, .inl (cy 2, 6, .inl dl)), (aDh, .inl (cy 2, 6, .inl dh)), (aDq, .inl (cy 2, 6, .inl (obsQ (plz v h db dl dh) dq dw k))), (aDw, .inl (cy 3, 6, .inl (upd (obsW (plz v h db dl dh) dw k) k 0))), (aB, .inr (4, [.int (nI N), .ref aV, .ref aH, .ref aP, .ref aM])), (aV, .inl (cy 2, 5, .inl v)), (aH, .inl (cy 2, 5, .inl h)), (aP, .inl (cy 3, 5, .inl pl)), (aM, .inl (cy 3, 5, .inl me))] H := hP
            have hD : va_D (wA [(aD, .inr (5, [.int (nI M), .ref aDb, .ref aDl, .ref aDh, .ref aDq, .ref aDw])), (aDb, .inl (cy 2, 6, .inl db)), (aDl, .inl (cy 2, 6, .inl dl)), (aDh, .inl (cy 2, 6, .inl dh)), (aDq, .inl (cy 2, 6, .inl dq)), (aDw, .inl (cy 3, 6, .inl dw)), (aB, .inr (4, [.int (nI N), .ref aV, .ref aH, .ref aP, .ref aM])), (aV, .inl (cy 2, 5, .inl v)), (aH, .inl (cy 2, 5, .inl h)), (aP, .inl (cy 3, 5, .inl pl)), (aM, .inl (cy 3, 5, .inl me))]) [(aD, .inr (5, [.int (nI M), .ref aDb, .ref aDl, .ref aDh, .ref aDq, .ref aDw])), (aDb, .inl (cy 2, 6, .inl db)), (aDl, .inl (cy 2, 6, .inl dl)), (aDh, .inl (cy 2, 6, .inl dh)), (aDq, .inl (cy 2, 6, .inl (obsQ (plz v h db dl dh) dq dw k))), (aDw, .inl (cy 3, 6, .inl (upd (obsW (plz v h db dl dh) dw k) k 0))), (aB, .inr (4, [.int (nI N), .ref aV, .ref aH, .ref aP, .ref aM])), (aV, .inl (cy 2, 5, .inl v)), (aH, .inl (cy 2, 5, .inl h)), (aP, .inl (cy 3, 5, .inl pl)), (aM, .inl (cy 3, 5, .inl me))] := hD
            refine lv_iinc (v := nI (k + 1)) (lv' := [(2, .int (nI (k + 1))), (3, .int 0), (0, .ref aD), (1, .ref aB)]) hx hb dX1_observe_47 hl (k := 3) rfl (m_inc _) (by decide) rfl (fun ls hl => ?_)
            refine lv_goto (tgt := 2) hx hb dX1_observe_50 (by decide) ?_
            have e_18 : obsQ (plz v h db dl dh) dq dw (k + 1) = obsQ (plz v h db dl dh) dq dw k := (by simp [obsQ, obsW, c_7, b_10, c_17])
            have e_19 : obsW (plz v h db dl dh) dw (k + 1) = upd (obsW (plz v h db dl dh) dw k) k 0 := (by simp [obsQ, obsW, c_7, b_10, c_17])
            exact ih (k + 1) (by omega) H locs (by rw [e_18, e_19]; exact hP) (m_D11 hD) hS ls (lv_sub hl [2, 3, 0] rfl)
          · refine lv_iload_n hx hb dX1_observe_26 rfl (lv_at hl 0 rfl) ?_
            refine lv_if_ne (tgt := 40) hx hb dX1_observe_27 (by decide) (fun c_20 => ?_) (fun c_20 => ?_)
            · exact absurd c_20 (by decide)
            · refine lv_aload_n hx hb dX1_observe_30 rfl (lv_at hl 1 rfl) ?_
              refine va_get (D := G) (ci := 5) (v := .ref aDq) (C := RX1) (T := TX1) (N := 6) hx hb hts hi5 hown hK.1 hP 0 rfl rfl 4 (by decide) hf25 (fun _ h9 => h9) rfl dX1_observe_31 ?_
              refine lv_iload_n hx hb dX1_observe_34 rfl (lv_at hl 3 rfl) ?_
              refine lv_dup2_11 hx hb dX1_observe_35 rfl rfl ?_
              refine m_iald hx hb hK hP 4 (k := k) rfl rfl (by omega) (Nat.le_of_ble_eq_true rfl) dX1_observe_36 ?_
              refine lv_iconst (v := 1) hx hb dX1_observe_37 (by decide) ?_
              refine lv_iadd hx hb dX1_observe_38 ?_
              refine m_iast hx hb hK hP hD hS 4 (k := k) rfl rfl (by omega) (Nat.le_of_ble_eq_true rfl) dX1_observe_39 (fun H locs hP hD hS => ?_)
              have hP : va_P G vwCl [(aD, .inr (5, [.int (nI M), .ref aDb, .ref aDl, .ref aDh, .ref aDq, .ref aDw])), (aDb, .inl (cy 2, 6, .inl db)), (aDl, .inl (cy 2, 6, .inl dl)), (aDh, .inl (cy 2, 6, .inl dh)), (aDq, .inl (cy 2, 6, .inl (upd (obsQ (plz v h db dl dh) dq dw k) k (((obsQ (plz v h db dl dh) dq dw k) k) + 1)))), (aDw, .inl (cy 3, 6, .inl (obsW (plz v h db dl dh) dw k))), (aB, .inr (4, [.int (nI N), .ref aV, .ref aH, .ref aP, .ref aM])), (aV, .inl (cy 2, 5, .inl v)), (aH, .inl (cy 2, 5, .inl h)), (aP, .inl (cy 3, 5, .inl pl)), (aM, .inl (cy 3, 5, .inl me))] H := hP
              have hD : va_D (wA [(aD, .inr (5, [.int (nI M), .ref aDb, .ref aDl, .ref aDh, .ref aDq, .ref aDw])), (aDb, .inl (cy 2, 6, .inl db)), (aDl, .inl (cy 2, 6, .inl dl)), (aDh, .inl (cy 2, 6, .inl dh)), (aDq, .inl (cy 2, 6, .inl dq)), (aDw, .inl (cy 3, 6, .inl dw)), (aB, .inr (4, [.int (nI N), .ref aV, .ref aH, .ref aP, .ref aM])), (aV, .inl (cy 2, 5, .inl v)), (aH, .inl (cy 2, 5, .inl h)), (aP, .inl (cy 3, 5, .inl pl)), (aM, .inl (cy 3, 5, .inl me))]) [(aD, .inr (5, [.int (nI M), .ref aDb, .ref aDl, .ref aDh, .ref aDq, .ref aDw])), (aDb, .inl (cy 2, 6, .inl db)), (aDl, .inl (cy 2, 6, .inl dl)), (aDh, .inl (cy 2, 6, .inl dh)), (aDq, .inl (cy 2, 6, .inl (upd (obsQ (plz v h db dl dh) dq dw k) k (((obsQ (plz v h db dl dh) dq dw k) k) + 1)))), (aDw, .inl (cy 3, 6, .inl (obsW (plz v h db dl dh) dw k))), (aB, .inr (4, [.int (nI N), .ref aV, .ref aH, .ref aP, .ref aM])), (aV, .inl (cy 2, 5, .inl v)), (aH, .inl (cy 2, 5, .inl h)), (aP, .inl (cy 3, 5, .inl pl)), (aM, .inl (cy 3, 5, .inl me))] := hD
              refine lv_aload_n hx hb dX1_observe_40 rfl (lv_at hl 1 rfl) ?_
              refine va_get (D := G) (ci := 5) (v := .ref aDw) (C := RX1) (T := TX1) (N := 6) hx hb hts hi5 hown hK.1 hP 0 rfl rfl 5 (by decide) hf28 (fun _ h9 => h9) rfl dX1_observe_41 ?_
              refine lv_iload_n hx hb dX1_observe_44 rfl (lv_at hl 3 rfl) ?_
              refine lv_iload_n hx hb dX1_observe_45 rfl (lv_at hl 0 rfl) ?_
              refine m_zast hx hb hK hP hD hS 5 (k := k) rfl rfl (by omega) (Nat.le_of_ble_eq_true rfl) rfl dX1_observe_46 (fun H locs hP hD hS => ?_)
              have hP : va_P G vwCl [(aD, .inr (5, [.int (nI M), .ref aDb, .ref aDl, .ref aDh, .ref aDq, .ref aDw])), (aDb, .inl (cy 2, 6, .inl db)), (aDl, .inl (cy 2, 6, .inl dl)), (aDh, .inl (cy 2, 6, .inl dh)), (aDq, .inl (cy 2, 6, .inl (upd (obsQ (plz v h db dl dh) dq dw k) k (((obsQ (plz v h db dl dh) dq dw k) k) + 1)))), (aDw, .inl (cy 3, 6, .inl (upd (obsW (plz v h db dl dh) dw k) k 0))), (aB, .inr (4, [.int (nI N), .ref aV, .ref aH, .ref aP, .ref aM])), (aV, .inl (cy 2, 5, .inl v)), (aH, .inl (cy 2, 5, .inl h)), (aP, .inl (cy 3, 5, .inl pl)), (aM, .inl (cy 3, 5, .inl me))] H := hP
              have hD : va_D (wA [(aD, .inr (5, [.int (nI M), .ref aDb, .ref aDl, .ref aDh, .ref aDq, .ref aDw])), (aDb, .inl (cy 2, 6, .inl db)), (aDl, .inl (cy 2, 6, .inl dl)), (aDh, .inl (cy 2, 6, .inl dh)), (aDq, .inl (cy 2, 6, .inl dq)), (aDw, .inl (cy 3, 6, .inl dw)), (aB, .inr (4, [.int (nI N), .ref aV, .ref aH, .ref aP, .ref aM])), (aV, .inl (cy 2, 5, .inl v)), (aH, .inl (cy 2, 5, .inl h)), (aP, .inl (cy 3, 5, .inl pl)), (aM, .inl (cy 3, 5, .inl me))]) [(aD, .inr (5, [.int (nI M), .ref aDb, .ref aDl, .ref aDh, .ref aDq, .ref aDw])), (aDb, .inl (cy 2, 6, .inl db)), (aDl, .inl (cy 2, 6, .inl dl)), (aDh, .inl (cy 2, 6, .inl dh)), (aDq, .inl (cy 2, 6, .inl (upd (obsQ (plz v h db dl dh) dq dw k) k (((obsQ (plz v h db dl dh) dq dw k) k) + 1)))), (aDw, .inl (cy 3, 6, .inl (upd (obsW (plz v h db dl dh) dw k) k 0))), (aB, .inr (4, [.int (nI N), .ref aV, .ref aH, .ref aP, .ref aM])), (aV, .inl (cy 2, 5, .inl v)), (aH, .inl (cy 2, 5, .inl h)), (aP, .inl (cy 3, 5, .inl pl)), (aM, .inl (cy 3, 5, .inl me))] := hD
              refine lv_iinc (v := nI (k + 1)) (lv' := [(2, .int (nI (k + 1))), (3, .int 0), (0, .ref aD), (1, .ref aB)]) hx hb dX1_observe_47 hl (k := 3) rfl (m_inc _) (by decide) rfl (fun ls hl => ?_)
              refine lv_goto (tgt := 2) hx hb dX1_observe_50 (by decide) ?_
              have e_21 : obsQ (plz v h db dl dh) dq dw (k + 1) = upd (obsQ (plz v h db dl dh) dq dw k) k (((obsQ (plz v h db dl dh) dq dw k) k) + 1) := (by simp [obsQ, obsW, c_7, b_10, c_17])
              have e_22 : obsW (plz v h db dl dh) dw (k + 1) = upd (obsW (plz v h db dl dh) dw k) k 0 := (by simp [obsQ, obsW, c_7, b_10, c_17])
              exact ih (k + 1) (by omega) H locs (by rw [e_21, e_22]; exact hP) (m_D11 hD) hS ls (lv_sub hl [2, 3, 0] rfl)
  exact L_1 M 0 (by omega) _ _ hP (m_D11 hD) hS ls (lv_sub hl [1, 2, 0] rfl)

set_option maxRecDepth 100000 in
set_option maxHeartbeats 1000000 in
theorem c_X1_ranksBefore (l : Launch) (G : va_G) (cy : Nat → ClassId) (aD aDb aDl aDh aDq aDw M : Nat) (db dl dh dq dw : Nat → Int32) (aB aV aH aP aM N : Nat) (v h pl me : Nat → Int32) (a b : Nat) (hM : M ≤ 6) (hdd : ∀ j, j < M → dOK (db j)) (ha : a < M) (hb2 : b < M) : RO l yX1_ranksBefore wsX1_ranksBefore { frames := 2, cells := 0, slots := 0, locals := 45 } (PB G cy [(aD, .inr (5, [.int (nI M), .ref aDb, .ref aDl, .ref aDh, .ref aDq, .ref aDw])), (aDb, .inl (cy 2, 6, .inl db)), (aDl, .inl (cy 2, 6, .inl dl)), (aDh, .inl (cy 2, 6, .inl dh)), (aDq, .inl (cy 2, 6, .inl dq)), (aDw, .inl (cy 3, 6, .inl dw)), (aB, .inr (4, [.int (nI N), .ref aV, .ref aH, .ref aP, .ref aM])), (aV, .inl (cy 2, 5, .inl v)), (aH, .inl (cy 2, 5, .inl h)), (aP, .inl (cy 3, 5, .inl pl)), (aM, .inl (cy 3, 5, .inl me))]) [.ref aD, .int (nI a), .int (nI b), .ref aB] (some (.int (if rkD (plz v h db dl dh) dq a b = true then 1 else 0))) := by
  refine RO.ofW (cc := cX1_ranksBefore) (maxL := 5) (ret := (some .boolean)) (by decide) rfl (Nat.le_of_ble_eq_true rfl) ?_
  intro p e s m below meth c S9 hr hlocks hPB ls hl
  obtain ⟨hx, hb, hml, hown, hts⟩ := id S9
  obtain ⟨hP, hK⟩ := hPB
  have hl : lv_has ls 5 [(0, .ref aD), (1, .int (nI a)), (2, .int (nI b)), (3, .ref aB)] := hl
  have hi5 : ∀ w ∈ wsX10, w ∈ wsX1_ranksBefore := by decide +kernel
  have hf25 := hts (.fieldLink RX1 25 "BathLeague$Ducks" "quackCount" "[I") (by decide +kernel)
  refine lv_aload_n hx hb dX1_ranksBefore_0 rfl (lv_at hl 0 rfl) ?_
  refine va_get (D := G) (ci := 5) (v := .ref aDq) (C := RX1) (T := TX1) (N := 6) hx hb hts hi5 hown hK.1 hP 0 rfl rfl 4 (by decide) hf25 (fun _ h9 => h9) rfl dX1_ranksBefore_1 ?_
  refine lv_iload_n hx hb dX1_ranksBefore_4 rfl (lv_at hl 1 rfl) ?_
  refine m_iald hx hb hK hP 4 (k := a) rfl rfl (by omega) (Nat.le_of_ble_eq_true rfl) dX1_ranksBefore_5 ?_
  refine lv_aload_n hx hb dX1_ranksBefore_6 rfl (lv_at hl 0 rfl) ?_
  refine va_get (D := G) (ci := 5) (v := .ref aDq) (C := RX1) (T := TX1) (N := 6) hx hb hts hi5 hown hK.1 hP 0 rfl rfl 4 (by decide) hf25 (fun _ h9 => h9) rfl dX1_ranksBefore_7 ?_
  refine lv_iload_n hx hb dX1_ranksBefore_10 rfl (lv_at hl 2 rfl) ?_
  refine m_iald hx hb hK hP 4 (k := b) rfl rfl (by omega) (Nat.le_of_ble_eq_true rfl) dX1_ranksBefore_11 ?_
  refine lv_icmp_eq (tgt := 36) hx hb dX1_ranksBefore_12 (by decide) (fun c_1 => ?_) (fun c_1 => ?_)
  · refine lv_aload_n hx hb dX1_ranksBefore_36 rfl (lv_at hl 0 rfl) ?_
    refine lv_iload_n hx hb dX1_ranksBefore_37 rfl (lv_at hl 1 rfl) ?_
    refine lv_aload_n hx hb dX1_ranksBefore_38 rfl (lv_at hl 3 rfl) ?_
    refine c_roVi S9 (c_X1_isPleased l G cy aD aDb aDl aDh aDq aDw M db dl dh dq dw aB aV aH aP aM N v h pl me a (by omega) (hdd _ (by omega))) (cwV 2 hts gX1_ranksBefore_X1_isPleased rfl rfl rfl (by decide +kernel) ⟨Nat.le_of_ble_eq_true rfl, Nat.le_of_ble_eq_true rfl⟩) PB.blind (va_recv hK.1 hP (ci := 5) (q0 := 0) rfl rfl) (PB.at hK (m_Ppart hP [0, 1, 2, 3, 4, 5, 6, 7, 8, 9, 10] rfl)) rfl hl.1 rfl (Nat.le_of_ble_eq_true rfl) ⟨Nat.zero_le _, Nat.zero_le _⟩ dX1_ranksBefore_39 ?_
    by_cases b_2 : plz v h db dl dh a = true
    · refine lv_t0 (if_pos b_2) ?_
      refine lv_istore (lv' := [(4, .int 1), (0, .ref aD), (1, .int (nI a)), (2, .int (nI b)), (3, .ref aB)]) hx hb dX1_ranksBefore_42 hl (by decide) rfl (fun ls hl => ?_)
      refine lv_iload hx hb dX1_ranksBefore_44 (lv_at hl 0 rfl) ?_
      refine lv_aload_n hx hb dX1_ranksBefore_46 rfl (lv_at hl 1 rfl) ?_
      refine lv_iload_n hx hb dX1_ranksBefore_47 rfl (lv_at hl 3 rfl) ?_
      refine lv_aload_n hx hb dX1_ranksBefore_48 rfl (lv_at hl 4 rfl) ?_
      refine c_roVi S9 (c_X1_isPleased l G cy aD aDb aDl aDh aDq aDw M db dl dh dq dw aB aV aH aP aM N v h pl me b (by omega) (hdd _ (by omega))) (cwV 2 hts gX1_ranksBefore_X1_isPleased rfl rfl rfl (by decide +kernel) ⟨Nat.le_of_ble_eq_true rfl, Nat.le_of_ble_eq_true rfl⟩) PB.blind (va_recv hK.1 hP (ci := 5) (q0 := 0) rfl rfl) (PB.at hK (m_Ppart hP [0, 1, 2, 3, 4, 5, 6, 7, 8, 9, 10] rfl)) rfl hl.1 rfl (Nat.le_of_ble_eq_true rfl) ⟨Nat.zero_le _, Nat.zero_le _⟩ dX1_ranksBefore_49 ?_
      by_cases b_3 : plz v h db dl dh b = true
      · refine lv_t0 (if_pos b_3) ?_
        refine lv_icmp_ne (tgt := 68) hx hb dX1_ranksBefore_52 (by decide) (fun c_4 => ?_) (fun c_4 => ?_)
        · exact absurd c_4 (by decide)
        · refine lv_iload_n hx hb dX1_ranksBefore_55 rfl (lv_at hl 2 rfl) ?_
          refine lv_iload_n hx hb dX1_ranksBefore_56 rfl (lv_at hl 3 rfl) ?_
          refine lv_icmp_ge (tgt := 64) hx hb dX1_ranksBefore_57 (by decide) (fun c_5 => ?_) (fun c_5 => ?_)
          · have k_6 : b ≤ a := (m_leN (a := b) (b := a) rfl rfl (by omega) (by omega)).mp c_5
            have k_6' : ¬ (a < b) := by omega
            refine lv_iconst (v := 0) hx hb dX1_ranksBefore_64 (by decide) ?_
            refine lv_goto (tgt := 70) hx hb dX1_ranksBefore_65 (by decide) ?_
            exact ro_zret hx hb hr hlocks (by first | rfl | (split <;> rfl)) (by simp [rkD, c_1, b_2, b_3, c_5, k_6', k_6]) dX1_ranksBefore_70
          · have k_7 : ¬ (b ≤ a) := fun z => c_5 ((m_leN (a := b) (b := a) rfl rfl (by omega) (by omega)).mpr z)
            have k_7' : a < b := by omega
            refine lv_iconst (v := 1) hx hb dX1_ranksBefore_60 (by decide) ?_
            refine lv_goto (tgt := 70) hx hb dX1_ranksBefore_61 (by decide) ?_
            exact ro_zret hx hb hr hlocks (by first | rfl | (split <;> rfl)) (by simp [rkD, c_1, b_2, b_3, c_5, k_7', k_7]) dX1_ranksBefore_70
      · refine lv_t0 (if_neg b_3) ?_
        refine lv_icmp_ne (tgt := 68) hx hb dX1_ranksBefore_52 (by decide) (fun c_8 => ?_) (fun c_8 => ?_)
        · refine lv_iload hx hb dX1_ranksBefore_68 (lv_at hl 0 rfl) ?_
          exact ro_zret hx hb hr hlocks (by first | rfl | (split <;> rfl)) (by simp [rkD, c_1, b_2, b_3]) dX1_ranksBefore_70
        · exact absurd c_8 (by decide)
    · refine lv_t0 (if_neg b_2) ?_
      refine lv_istore (lv' := [(4, .int 0), (0, .ref aD), (1, .int (nI a)), (2, .int (nI b)), (3, .ref aB)]) hx hb dX1_ranksBefore_42 hl (by decide) rfl (fun ls hl => ?_)
      refine lv_iload hx hb dX1_ranksBefore_44 (lv_at hl 0 rfl) ?_
      refine lv_aload_n hx hb dX1_ranksBefore_46 rfl (lv_at hl 1 rfl) ?_
      refine lv_iload_n hx hb dX1_ranksBefore_47 rfl (lv_at hl 3 rfl) ?_
      refine lv_aload_n hx hb dX1_ranksBefore_48 rfl (lv_at hl 4 rfl) ?_
      refine c_roVi S9 (c_X1_isPleased l G cy aD aDb aDl aDh aDq aDw M db dl dh dq dw aB aV aH aP aM N v h pl me b (by omega) (hdd _ (by omega))) (cwV 2 hts gX1_ranksBefore_X1_isPleased rfl rfl rfl (by decide +kernel) ⟨Nat.le_of_ble_eq_true rfl, Nat.le_of_ble_eq_true rfl⟩) PB.blind (va_recv hK.1 hP (ci := 5) (q0 := 0) rfl rfl) (PB.at hK (m_Ppart hP [0, 1, 2, 3, 4, 5, 6, 7, 8, 9, 10] rfl)) rfl hl.1 rfl (Nat.le_of_ble_eq_true rfl) ⟨Nat.zero_le _, Nat.zero_le _⟩ dX1_ranksBefore_49 ?_
      by_cases b_9 : plz v h db dl dh b = true
      · refine lv_t0 (if_pos b_9) ?_
        refine lv_icmp_ne (tgt := 68) hx hb dX1_ranksBefore_52 (by decide) (fun c_10 => ?_) (fun c_10 => ?_)
        · refine lv_iload hx hb dX1_ranksBefore_68 (lv_at hl 0 rfl) ?_
          exact ro_zret hx hb hr hlocks (by first | rfl | (split <;> rfl)) (by simp [rkD, c_1, b_2, b_9]) dX1_ranksBefore_70
        · exact absurd c_10 (by decide)
      · refine lv_t0 (if_neg b_9) ?_
        refine lv_icmp_ne (tgt := 68) hx hb dX1_ranksBefore_52 (by decide) (fun c_11 => ?_) (fun c_11 => ?_)
        · exact absurd c_11 (by decide)
        · refine lv_iload_n hx hb dX1_ranksBefore_55 rfl (lv_at hl 2 rfl) ?_
          refine lv_iload_n hx hb dX1_ranksBefore_56 rfl (lv_at hl 3 rfl) ?_
          refine lv_icmp_ge (tgt := 64) hx hb dX1_ranksBefore_57 (by decide) (fun c_12 => ?_) (fun c_12 => ?_)
          · have k_13 : b ≤ a := (m_leN (a := b) (b := a) rfl rfl (by omega) (by omega)).mp c_12
            have k_13' : ¬ (a < b) := by omega
            refine lv_iconst (v := 0) hx hb dX1_ranksBefore_64 (by decide) ?_
            refine lv_goto (tgt := 70) hx hb dX1_ranksBefore_65 (by decide) ?_
            exact ro_zret hx hb hr hlocks (by first | rfl | (split <;> rfl)) (by simp [rkD, c_1, b_2, b_9, c_12, k_13', k_13]) dX1_ranksBefore_70
          · have k_14 : ¬ (b ≤ a) := fun z => c_12 ((m_leN (a := b) (b := a) rfl rfl (by omega) (by omega)).mpr z)
            have k_14' : a < b := by omega
            refine lv_iconst (v := 1) hx hb dX1_ranksBefore_60 (by decide) ?_
            refine lv_goto (tgt := 70) hx hb dX1_ranksBefore_61 (by decide) ?_
            exact ro_zret hx hb hr hlocks (by first | rfl | (split <;> rfl)) (by simp [rkD, c_1, b_2, b_9, c_12, k_14', k_14]) dX1_ranksBefore_70
  · refine lv_aload_n hx hb dX1_ranksBefore_15 rfl (lv_at hl 0 rfl) ?_
    refine va_get (D := G) (ci := 5) (v := .ref aDq) (C := RX1) (T := TX1) (N := 6) hx hb hts hi5 hown hK.1 hP 0 rfl rfl 4 (by decide) hf25 (fun _ h9 => h9) rfl dX1_ranksBefore_16 ?_
    refine lv_iload_n hx hb dX1_ranksBefore_19 rfl (lv_at hl 1 rfl) ?_
    refine m_iald hx hb hK hP 4 (k := a) rfl rfl (by omega) (Nat.le_of_ble_eq_true rfl) dX1_ranksBefore_20 ?_
    refine lv_aload_n hx hb dX1_ranksBefore_21 rfl (lv_at hl 0 rfl) ?_
    refine va_get (D := G) (ci := 5) (v := .ref aDq) (C := RX1) (T := TX1) (N := 6) hx hb hts hi5 hown hK.1 hP 0 rfl rfl 4 (by decide) hf25 (fun _ h9 => h9) rfl dX1_ranksBefore_22 ?_
    refine lv_iload_n hx hb dX1_ranksBefore_25 rfl (lv_at hl 2 rfl) ?_
    refine m_iald hx hb hK hP 4 (k := b) rfl rfl (by omega) (Nat.le_of_ble_eq_true rfl) dX1_ranksBefore_26 ?_
    refine lv_icmp_le (tgt := 34) hx hb dX1_ranksBefore_27 (by decide) (fun c_15 => ?_) (fun c_15 => ?_)
    · have c_15' : ¬ (dq b) < (dq a) := Int32.not_lt.mpr c_15
      refine lv_iconst (v := 0) hx hb dX1_ranksBefore_34 (by decide) ?_
      exact ro_zret hx hb hr hlocks (by first | rfl | (split <;> rfl)) (by simp [rkD, c_1, c_15', c_15]) dX1_ranksBefore_35
    · have c_15' : (dq b) < (dq a) := Int32.not_le.mp c_15
      refine lv_iconst (v := 1) hx hb dX1_ranksBefore_30 (by decide) ?_
      refine lv_goto (tgt := 35) hx hb dX1_ranksBefore_31 (by decide) ?_
      exact ro_zret hx hb hr hlocks (by first | rfl | (split <;> rfl)) (by simp [rkD, c_1, c_15', c_15]) dX1_ranksBefore_35

set_option maxRecDepth 100000 in
set_option maxHeartbeats 1000000 in
theorem c_X1_rankOf (l : Launch) (G : va_G) (cy : Nat → ClassId) (aD aDb aDl aDh aDq aDw M : Nat) (db dl dh dq dw : Nat → Int32) (aB aV aH aP aM N : Nat) (v h pl me : Nat → Int32) (b : Nat) (hM : M ≤ 6) (hdd : ∀ j, j < M → dOK (db j)) (hb2 : b < M) : RO l yX1_rankOf wsX1_rankOf { frames := 3, cells := 0, slots := 0, locals := 69 } (PB G cy [(aD, .inr (5, [.int (nI M), .ref aDb, .ref aDl, .ref aDh, .ref aDq, .ref aDw])), (aDb, .inl (cy 2, 6, .inl db)), (aDl, .inl (cy 2, 6, .inl dl)), (aDh, .inl (cy 2, 6, .inl dh)), (aDq, .inl (cy 2, 6, .inl dq)), (aDw, .inl (cy 3, 6, .inl dw)), (aB, .inr (4, [.int (nI N), .ref aV, .ref aH, .ref aP, .ref aM])), (aV, .inl (cy 2, 5, .inl v)), (aH, .inl (cy 2, 5, .inl h)), (aP, .inl (cy 3, 5, .inl pl)), (aM, .inl (cy 3, 5, .inl me))]) [.ref aD, .int (nI b), .ref aB] (some (.int (rkDN (plz v h db dl dh) dq b M))) := by
  refine RO.ofW (cc := cX1_rankOf) (maxL := 5) (ret := (some .int)) (by decide) rfl (Nat.le_of_ble_eq_true rfl) ?_
  intro p e s m below meth c S9 hr hlocks hPB ls hl
  obtain ⟨hx, hb, hml, hown, hts⟩ := id S9
  obtain ⟨hP, hK⟩ := hPB
  have hl : lv_has ls 5 [(0, .ref aD), (1, .int (nI b)), (2, .ref aB)] := hl
  have hi5 : ∀ w ∈ wsX10, w ∈ wsX1_rankOf := by decide +kernel
  have hf9 := hts (.fieldLink RX1 9 "BathLeague$Ducks" "count" "I") (by decide +kernel)
  refine lv_iconst (v := 0) hx hb dX1_rankOf_0 (by decide) ?_
  refine lv_istore_n (lv' := [(3, .int 0), (0, .ref aD), (1, .int (nI b)), (2, .ref aB)]) hx hb dX1_rankOf_1 rfl hl (by decide) rfl (fun ls hl => ?_)
  refine lv_iconst (v := 0) hx hb dX1_rankOf_2 (by decide) ?_
  refine lv_istore (lv' := [(4, .int 0), (3, .int 0), (0, .ref aD), (1, .int (nI b)), (2, .ref aB)]) hx hb dX1_rankOf_3 hl (by decide) rfl (fun ls hl => ?_)
  have L_1 : ∀ (d k : Nat), k + d = M → ∀ ls : Array Slot, lv_has ls 5 [(0, .ref aD), (1, .int (nI b)), (2, .ref aB), (3, .int (rkDN (plz v h db dl dh) dq b k)), (4, .int (nI k))] → W p l e ({ frames := 3, cells := 0, slots := 0, locals := 69 } : Room) s m ([.ref aD, .int (nI b), .ref aB] : List Value).toArray below meth c s.heap [] 0 0 (roZ below ([.ref aD, .int (nI b), .ref aB] : List Value).toArray s (some (.int (rkDN (plz v h db dl dh) dq b M)))) (F0 m 5 ls []) := by
    intro d
    induction d with
    | zero =>
      intro k hkk ls hl
      refine lv_iload hx hb dX1_rankOf_5 (lv_at hl 4 rfl) ?_
      refine lv_aload_n hx hb dX1_rankOf_7 rfl (lv_at hl 0 rfl) ?_
      refine va_get (D := G) (ci := 5) (v := .int (nI M)) (C := RX1) (T := TX1) (N := 6) hx hb hts hi5 hown hK.1 hP 0 rfl rfl 0 (by decide) hf9 (fun _ h9 => h9) rfl dX1_rankOf_8 ?_
      refine lv_icmp_ge (tgt := 34) hx hb dX1_rankOf_11 (by decide) (fun c_2 => ?_) (fun c_2 => ?_)
      · have k_3 : M ≤ k := (m_leN (a := M) (b := k) rfl rfl (by omega) (by omega)).mp c_2
        have k_3' : ¬ (k < M) := by omega
        refine lv_iload_n hx hb dX1_rankOf_34 rfl (lv_at hl 3 rfl) ?_
        exact ro_iret hx hb hr hlocks (by rw [show k = M by omega]) dX1_rankOf_35
      · have k_4 : ¬ (M ≤ k) := fun z => c_2 ((m_leN (a := M) (b := k) rfl rfl (by omega) (by omega)).mpr z)
        have k_4' : k < M := by omega
        exfalso; omega
    | succ d ih =>
      intro k hkk ls hl
      refine lv_iload hx hb dX1_rankOf_5 (lv_at hl 4 rfl) ?_
      refine lv_aload_n hx hb dX1_rankOf_7 rfl (lv_at hl 0 rfl) ?_
      refine va_get (D := G) (ci := 5) (v := .int (nI M)) (C := RX1) (T := TX1) (N := 6) hx hb hts hi5 hown hK.1 hP 0 rfl rfl 0 (by decide) hf9 (fun _ h9 => h9) rfl dX1_rankOf_8 ?_
      refine lv_icmp_ge (tgt := 34) hx hb dX1_rankOf_11 (by decide) (fun c_5 => ?_) (fun c_5 => ?_)
      · have k_6 : M ≤ k := (m_leN (a := M) (b := k) rfl rfl (by omega) (by omega)).mp c_5
        have k_6' : ¬ (k < M) := by omega
        exfalso; omega
      · have k_7 : ¬ (M ≤ k) := fun z => c_5 ((m_leN (a := M) (b := k) rfl rfl (by omega) (by omega)).mpr z)
        have k_7' : k < M := by omega
        refine lv_aload_n hx hb dX1_rankOf_14 rfl (lv_at hl 0 rfl) ?_
        refine lv_iload hx hb dX1_rankOf_15 (lv_at hl 4 rfl) ?_
        refine lv_iload_n hx hb dX1_rankOf_17 rfl (lv_at hl 1 rfl) ?_
        refine lv_aload_n hx hb dX1_rankOf_18 rfl (lv_at hl 2 rfl) ?_
        refine c_roVi S9 (c_X1_ranksBefore l G cy aD aDb aDl aDh aDq aDw M db dl dh dq dw aB aV aH aP aM N v h pl me k b (by omega) hdd (by omega) (by omega)) (cwV 3 hts gX1_rankOf_X1_ranksBefore rfl rfl rfl (by decide +kernel) ⟨Nat.le_of_ble_eq_true rfl, Nat.le_of_ble_eq_true rfl⟩) PB.blind (va_recv hK.1 hP (ci := 5) (q0 := 0) rfl rfl) (PB.at hK (m_Ppart hP [0, 1, 2, 3, 4, 5, 6, 7, 8, 9, 10] rfl)) rfl hl.1 rfl (Nat.le_of_ble_eq_true rfl) ⟨Nat.zero_le _, Nat.zero_le _⟩ dX1_rankOf_19 ?_
        refine lv_if_eq (tgt := 28) hx hb dX1_rankOf_22 (by decide) (fun c_8 => ?_) (fun c_8 => ?_)
        · have b_9 : ¬ (rkD (plz v h db dl dh) dq k b = true) := m_ite0.mp c_8
          refine lv_iinc (v := nI (k + 1)) (lv' := [(4, .int (nI (k + 1))), (0, .ref aD), (1, .int (nI b)), (2, .ref aB), (3, .int (rkDN (plz v h db dl dh) dq b k))]) hx hb dX1_rankOf_28 hl (k := 4) rfl (m_inc _) (by decide) rfl (fun ls hl => ?_)
          refine lv_goto (tgt := 5) hx hb dX1_rankOf_31 (by decide) ?_
          have e_10 : rkDN (plz v h db dl dh) dq b (k + 1) = rkDN (plz v h db dl dh) dq b k := (by simp [rkDN, c_5, b_9])
          exact ih (k + 1) (by omega) ls (by rw [e_10]; exact lv_sub hl [1, 2, 3, 4, 0] rfl)
        · have b_11 : rkD (plz v h db dl dh) dq k b = true := m_ite1.mp c_8
          refine lv_iinc (v := (rkDN (plz v h db dl dh) dq b k) + 1) (lv' := [(3, .int ((rkDN (plz v h db dl dh) dq b k) + 1)), (0, .ref aD), (1, .int (nI b)), (2, .ref aB), (4, .int (nI k))]) hx hb dX1_rankOf_25 hl (k := 3) rfl rfl (by decide) rfl (fun ls hl => ?_)
          refine lv_iinc (v := nI (k + 1)) (lv' := [(4, .int (nI (k + 1))), (3, .int ((rkDN (plz v h db dl dh) dq b k) + 1)), (0, .ref aD), (1, .int (nI b)), (2, .ref aB)]) hx hb dX1_rankOf_28 hl (k := 4) rfl (m_inc _) (by decide) rfl (fun ls hl => ?_)
          refine lv_goto (tgt := 5) hx hb dX1_rankOf_31 (by decide) ?_
          have e_12 : rkDN (plz v h db dl dh) dq b (k + 1) = (rkDN (plz v h db dl dh) dq b k) + 1 := (by simp [rkDN, c_5, b_11])
          exact ih (k + 1) (by omega) ls (by rw [e_12]; exact lv_sub hl [2, 3, 4, 1, 0] rfl)
  exact L_1 M 0 (by omega) ls (lv_sub hl [2, 3, 4, 1, 0] rfl)

set_option maxRecDepth 100000 in
set_option maxHeartbeats 1000000 in
theorem c_X1_atRank (l : Launch) (G : va_G) (cy : Nat → ClassId) (aD aDb aDl aDh aDq aDw M : Nat) (db dl dh dq dw : Nat → Int32) (aB aV aH aP aM N : Nat) (v h pl me : Nat → Int32) (i : Int32) (hM : M ≤ 6) (hdd : ∀ j, j < M → dOK (db j)) : RO l yX1_atRank wsX1_atRank { frames := 4, cells := 0, slots := 0, locals := 93 } (PB G cy [(aD, .inr (5, [.int (nI M), .ref aDb, .ref aDl, .ref aDh, .ref aDq, .ref aDw])), (aDb, .inl (cy 2, 6, .inl db)), (aDl, .inl (cy 2, 6, .inl dl)), (aDh, .inl (cy 2, 6, .inl dh)), (aDq, .inl (cy 2, 6, .inl dq)), (aDw, .inl (cy 3, 6, .inl dw)), (aB, .inr (4, [.int (nI N), .ref aV, .ref aH, .ref aP, .ref aM])), (aV, .inl (cy 2, 5, .inl v)), (aH, .inl (cy 2, 5, .inl h)), (aP, .inl (cy 3, 5, .inl pl)), (aM, .inl (cy 3, 5, .inl me))]) [.ref aD, .int i, .ref aB] (some (.int (atF (fun j => rkDN (plz v h db dl dh) dq j M) i 0 M))) := by
  refine RO.ofW (cc := cX1_atRank) (maxL := 4) (ret := (some .int)) (by decide) rfl (Nat.le_of_ble_eq_true rfl) ?_
  intro p e s m below meth c S9 hr hlocks hPB ls hl
  obtain ⟨hx, hb, hml, hown, hts⟩ := id S9
  obtain ⟨hP, hK⟩ := hPB
  have hl : lv_has ls 4 [(0, .ref aD), (1, .int i), (2, .ref aB)] := hl
  have hi5 : ∀ w ∈ wsX10, w ∈ wsX1_atRank := by decide +kernel
  have hf9 := hts (.fieldLink RX1 9 "BathLeague$Ducks" "count" "I") (by decide +kernel)
  refine lv_iconst (v := 0) hx hb dX1_atRank_0 (by decide) ?_
  refine lv_istore_n (lv' := [(3, .int 0), (0, .ref aD), (1, .int i), (2, .ref aB)]) hx hb dX1_atRank_1 rfl hl (by decide) rfl (fun ls hl => ?_)
  have L_1 : ∀ (d k : Nat), k + d = M → (atF (fun j => rkDN (plz v h db dl dh) dq j M) i k d = atF (fun j => rkDN (plz v h db dl dh) dq j M) i 0 M) → ∀ ls : Array Slot, lv_has ls 4 [(0, .ref aD), (1, .int i), (2, .ref aB), (3, .int (nI k))] → W p l e ({ frames := 4, cells := 0, slots := 0, locals := 93 } : Room) s m ([.ref aD, .int i, .ref aB] : List Value).toArray below meth c s.heap [] 0 0 (roZ below ([.ref aD, .int i, .ref aB] : List Value).toArray s (some (.int (atF (fun j => rkDN (plz v h db dl dh) dq j M) i 0 M)))) (F0 m 2 ls []) := by
    intro d
    induction d with
    | zero =>
      intro k hkk hat ls hl
      refine lv_iload_n hx hb dX1_atRank_2 rfl (lv_at hl 3 rfl) ?_
      refine lv_aload_n hx hb dX1_atRank_3 rfl (lv_at hl 0 rfl) ?_
      refine va_get (D := G) (ci := 5) (v := .int (nI M)) (C := RX1) (T := TX1) (N := 6) hx hb hts hi5 hown hK.1 hP 0 rfl rfl 0 (by decide) hf9 (fun _ h9 => h9) rfl dX1_atRank_4 ?_
      refine lv_icmp_ge (tgt := 28) hx hb dX1_atRank_7 (by decide) (fun c_2 => ?_) (fun c_2 => ?_)
      · have k_3 : M ≤ k := (m_leN (a := M) (b := k) rfl rfl (by omega) (by omega)).mp c_2
        have k_3' : ¬ (k < M) := by omega
        refine lv_iconst (v := (-1)) hx hb dX1_atRank_28 (by decide) ?_
        exact ro_iret hx hb hr hlocks (by rw [← hat]; simp [atF, ]) dX1_atRank_29
      · have k_4 : ¬ (M ≤ k) := fun z => c_2 ((m_leN (a := M) (b := k) rfl rfl (by omega) (by omega)).mpr z)
        have k_4' : k < M := by omega
        exfalso; omega
    | succ d ih =>
      intro k hkk hat ls hl
      refine lv_iload_n hx hb dX1_atRank_2 rfl (lv_at hl 3 rfl) ?_
      refine lv_aload_n hx hb dX1_atRank_3 rfl (lv_at hl 0 rfl) ?_
      refine va_get (D := G) (ci := 5) (v := .int (nI M)) (C := RX1) (T := TX1) (N := 6) hx hb hts hi5 hown hK.1 hP 0 rfl rfl 0 (by decide) hf9 (fun _ h9 => h9) rfl dX1_atRank_4 ?_
      refine lv_icmp_ge (tgt := 28) hx hb dX1_atRank_7 (by decide) (fun c_5 => ?_) (fun c_5 => ?_)
      · have k_6 : M ≤ k := (m_leN (a := M) (b := k) rfl rfl (by omega) (by omega)).mp c_5
        have k_6' : ¬ (k < M) := by omega
        exfalso; omega
      · have k_7 : ¬ (M ≤ k) := fun z => c_5 ((m_leN (a := M) (b := k) rfl rfl (by omega) (by omega)).mpr z)
        have k_7' : k < M := by omega
        refine lv_aload_n hx hb dX1_atRank_10 rfl (lv_at hl 0 rfl) ?_
        refine lv_iload_n hx hb dX1_atRank_11 rfl (lv_at hl 3 rfl) ?_
        refine lv_aload_n hx hb dX1_atRank_12 rfl (lv_at hl 2 rfl) ?_
        refine c_roVi S9 (c_X1_rankOf l G cy aD aDb aDl aDh aDq aDw M db dl dh dq dw aB aV aH aP aM N v h pl me k (by omega) hdd (by omega)) (cwV 2 hts gX1_atRank_X1_rankOf rfl rfl rfl (by decide +kernel) ⟨Nat.le_of_ble_eq_true rfl, Nat.le_of_ble_eq_true rfl⟩) PB.blind (va_recv hK.1 hP (ci := 5) (q0 := 0) rfl rfl) (PB.at hK (m_Ppart hP [0, 1, 2, 3, 4, 5, 6, 7, 8, 9, 10] rfl)) rfl hl.1 rfl (Nat.le_of_ble_eq_true rfl) ⟨Nat.zero_le _, Nat.zero_le _⟩ dX1_atRank_13 ?_
        refine lv_iload_n hx hb dX1_atRank_16 rfl (lv_at hl 1 rfl) ?_
        refine lv_icmp_ne (tgt := 22) hx hb dX1_atRank_17 (by decide) (fun c_8 => ?_) (fun c_8 => ?_)
        · refine lv_iinc (v := nI (k + 1)) (lv' := [(3, .int (nI (k + 1))), (0, .ref aD), (1, .int i), (2, .ref aB)]) hx hb dX1_atRank_22 hl (k := 3) rfl (m_inc _) (by decide) rfl (fun ls hl => ?_)
          refine lv_goto (tgt := 2) hx hb dX1_atRank_25 (by decide) ?_
          exact ih (k + 1) (by omega) (by rw [← hat]; simp [atF, c_5, c_8]) ls (lv_sub hl [1, 2, 3, 0] rfl)
        · refine lv_iload_n hx hb dX1_atRank_20 rfl (lv_at hl 3 rfl) ?_
          exact ro_iret hx hb hr hlocks (by rw [← hat]; simp [atF, c_8]) dX1_atRank_21
  exact L_1 M 0 (by omega) rfl ls (lv_sub hl [1, 2, 3, 0] rfl)

set_option maxRecDepth 100000 in
set_option maxHeartbeats 1000000 in
theorem c_X1_copyFrom (l : Launch) (G : va_G) (cy : Nat → ClassId) (aD aDb aDl aDh aDq aDw M : Nat) (db dl dh dq dw : Nat → Int32) (aD2 aDb2 aDl2 aDh2 aDq2 aDw2 M2 : Nat) (db2 dl2 dh2 dq2 dw2 : Nat → Int32) (hz1 : bzN 6 dw2) : WC l yX1_copyFrom wsX1_copyFrom { frames := 0, cells := 0, slots := 0, locals := 0 } G (PB G cy [(aD, .inr (5, [.int (nI M), .ref aDb, .ref aDl, .ref aDh, .ref aDq, .ref aDw])), (aDb, .inl (cy 2, 6, .inl db)), (aDl, .inl (cy 2, 6, .inl dl)), (aDh, .inl (cy 2, 6, .inl dh)), (aDq, .inl (cy 2, 6, .inl dq)), (aDw, .inl (cy 3, 6, .inl dw)), (aD2, .inr (5, [.int (nI M2), .ref aDb2, .ref aDl2, .ref aDh2, .ref aDq2, .ref aDw2])), (aDb2, .inl (cy 2, 6, .inl db2)), (aDl2, .inl (cy 2, 6, .inl dl2)), (aDh2, .inl (cy 2, 6, .inl dh2)), (aDq2, .inl (cy 2, 6, .inl dq2)), (aDw2, .inl (cy 3, 6, .inl dw2))]) [.ref aD, .ref aD2] [(aD, .inr (5, [.int (nI M), .ref aDb, .ref aDl, .ref aDh, .ref aDq, .ref aDw])), (aDb, .inl (cy 2, 6, .inl db)), (aDl, .inl (cy 2, 6, .inl dl)), (aDh, .inl (cy 2, 6, .inl dh)), (aDq, .inl (cy 2, 6, .inl dq)), (aDw, .inl (cy 3, 6, .inl dw)), (aD2, .inr (5, [.int (nI M2), .ref aDb2, .ref aDl2, .ref aDh2, .ref aDq2, .ref aDw2])), (aDb2, .inl (cy 2, 6, .inl db2)), (aDl2, .inl (cy 2, 6, .inl dl2)), (aDh2, .inl (cy 2, 6, .inl dh2)), (aDq2, .inl (cy 2, 6, .inl dq2)), (aDw2, .inl (cy 3, 6, .inl dw2))] [(aD, .inr (5, [.int (nI M2), .ref aDb, .ref aDl, .ref aDh, .ref aDq, .ref aDw])), (aDb, .inl (cy 2, 6, .inl db2)), (aDl, .inl (cy 2, 6, .inl dl2)), (aDh, .inl (cy 2, 6, .inl dh2)), (aDq, .inl (cy 2, 6, .inl dq2)), (aDw, .inl (cy 3, 6, .inl dw2)), (aD2, .inr (5, [.int (nI M2), .ref aDb2, .ref aDl2, .ref aDh2, .ref aDq2, .ref aDw2])), (aDb2, .inl (cy 2, 6, .inl db2)), (aDl2, .inl (cy 2, 6, .inl dl2)), (aDh2, .inl (cy 2, 6, .inl dh2)), (aDq2, .inl (cy 2, 6, .inl dq2)), (aDw2, .inl (cy 3, 6, .inl dw2))] (none) := by
  refine WC.ofW (cc := cX1_copyFrom) (maxL := 3) (ret := none) (by decide) rfl (Nat.le_of_ble_eq_true rfl) ?_
  intro p e s m below meth c S9 hr hlocks hPB hD hS ls hl
  obtain ⟨hx, hb, hml, hown, hts⟩ := id S9
  obtain ⟨hP, hK⟩ := hPB
  have hl : lv_has ls 3 [(0, .ref aD), (1, .ref aD2)] := hl
  have hi5 : ∀ w ∈ wsX10, w ∈ wsX1_copyFrom := by decide +kernel
  have hf9 := hts (.fieldLink RX1 9 "BathLeague$Ducks" "count" "I") (by decide +kernel)
  have hf15 := hts (.fieldLink RX1 15 "BathLeague$Ducks" "bath" "[I") (by decide +kernel)
  have hf19 := hts (.fieldLink RX1 19 "BathLeague$Ducks" "low" "[I") (by decide +kernel)
  have hf22 := hts (.fieldLink RX1 22 "BathLeague$Ducks" "high" "[I") (by decide +kernel)
  have hf25 := hts (.fieldLink RX1 25 "BathLeague$Ducks" "quackCount" "[I") (by decide +kernel)
  have hf28 := hts (.fieldLink RX1 28 "BathLeague$Ducks" "wasPleased" "[Z") (by decide +kernel)
  refine lv_aload_n hx hb dX1_copyFrom_0 rfl (lv_at hl 0 rfl) ?_
  refine lv_aload_n hx hb dX1_copyFrom_1 rfl (lv_at hl 1 rfl) ?_
  refine va_get (D := G) (ci := 5) (v := .int (nI M2)) (C := RX1) (T := TX1) (N := 6) hx hb hts hi5 hown hK.1 hP 6 rfl rfl 0 (by decide) hf9 (fun _ h9 => h9) rfl dX1_copyFrom_2 ?_
  refine va_put (D := G) (ci := 5) (v := .int (nI M2)) (ty := .int) (C := RX1) (T := TX1) (N := 6) hx hb hts hi5 tyX1 tyX1_ok nmX1 hown hK.1 hP hD hS 0 rfl rfl 0 (by decide) hf9 (fun _ h9 => h9) rfl (by decide +kernel) rfl rfl (Nat.le_of_ble_eq_true rfl) dX1_copyFrom_5 (fun H locs hP hD hS => ?_)
  have hP : va_P G vwCl [(aD, .inr (5, [.int (nI M2), .ref aDb, .ref aDl, .ref aDh, .ref aDq, .ref aDw])), (aDb, .inl (cy 2, 6, .inl db)), (aDl, .inl (cy 2, 6, .inl dl)), (aDh, .inl (cy 2, 6, .inl dh)), (aDq, .inl (cy 2, 6, .inl dq)), (aDw, .inl (cy 3, 6, .inl dw)), (aD2, .inr (5, [.int (nI M2), .ref aDb2, .ref aDl2, .ref aDh2, .ref aDq2, .ref aDw2])), (aDb2, .inl (cy 2, 6, .inl db2)), (aDl2, .inl (cy 2, 6, .inl dl2)), (aDh2, .inl (cy 2, 6, .inl dh2)), (aDq2, .inl (cy 2, 6, .inl dq2)), (aDw2, .inl (cy 3, 6, .inl dw2))] H := hP
  have hD : va_D (wA [(aD, .inr (5, [.int (nI M), .ref aDb, .ref aDl, .ref aDh, .ref aDq, .ref aDw])), (aDb, .inl (cy 2, 6, .inl db)), (aDl, .inl (cy 2, 6, .inl dl)), (aDh, .inl (cy 2, 6, .inl dh)), (aDq, .inl (cy 2, 6, .inl dq)), (aDw, .inl (cy 3, 6, .inl dw)), (aD2, .inr (5, [.int (nI M2), .ref aDb2, .ref aDl2, .ref aDh2, .ref aDq2, .ref aDw2])), (aDb2, .inl (cy 2, 6, .inl db2)), (aDl2, .inl (cy 2, 6, .inl dl2)), (aDh2, .inl (cy 2, 6, .inl dh2)), (aDq2, .inl (cy 2, 6, .inl dq2)), (aDw2, .inl (cy 3, 6, .inl dw2))]) [(aD, .inr (5, [.int (nI M2), .ref aDb, .ref aDl, .ref aDh, .ref aDq, .ref aDw])), (aDb, .inl (cy 2, 6, .inl db)), (aDl, .inl (cy 2, 6, .inl dl)), (aDh, .inl (cy 2, 6, .inl dh)), (aDq, .inl (cy 2, 6, .inl dq)), (aDw, .inl (cy 3, 6, .inl dw)), (aD2, .inr (5, [.int (nI M2), .ref aDb2, .ref aDl2, .ref aDh2, .ref aDq2, .ref aDw2])), (aDb2, .inl (cy 2, 6, .inl db2)), (aDl2, .inl (cy 2, 6, .inl dl2)), (aDh2, .inl (cy 2, 6, .inl dh2)), (aDq2, .inl (cy 2, 6, .inl dq2)), (aDw2, .inl (cy 3, 6, .inl dw2))] := hD
  refine lv_iconst (v := 0) hx hb dX1_copyFrom_8 (by decide) ?_
  refine lv_istore_n (lv' := [(2, .int 0), (0, .ref aD), (1, .ref aD2)]) hx hb dX1_copyFrom_9 rfl hl (by decide) rfl (fun ls hl => ?_)
  have L_1 : ∀ (d k : Nat), k + d = 6 → ∀ (H : Heap) (locs : List Loc), va_P G vwCl [(aD, .inr (5, [.int (nI M2), .ref aDb, .ref aDl, .ref aDh, .ref aDq, .ref aDw])), (aDb, .inl (cy 2, 6, .inl (cpN db db2 k))), (aDl, .inl (cy 2, 6, .inl (cpN dl dl2 k))), (aDh, .inl (cy 2, 6, .inl (cpN dh dh2 k))), (aDq, .inl (cy 2, 6, .inl (cpN dq dq2 k))), (aDw, .inl (cy 3, 6, .inl (cpN dw dw2 k))), (aD2, .inr (5, [.int (nI M2), .ref aDb2, .ref aDl2, .ref aDh2, .ref aDq2, .ref aDw2])), (aDb2, .inl (cy 2, 6, .inl db2)), (aDl2, .inl (cy 2, 6, .inl dl2)), (aDh2, .inl (cy 2, 6, .inl dh2)), (aDq2, .inl (cy 2, 6, .inl dq2)), (aDw2, .inl (cy 3, 6, .inl dw2))] H → va_D (wA [(aD, .inr (5, [.int (nI M), .ref aDb, .ref aDl, .ref aDh, .ref aDq, .ref aDw])), (aDb, .inl (cy 2, 6, .inl db)), (aDl, .inl (cy 2, 6, .inl dl)), (aDh, .inl (cy 2, 6, .inl dh)), (aDq, .inl (cy 2, 6, .inl dq)), (aDw, .inl (cy 3, 6, .inl dw)), (aD2, .inr (5, [.int (nI M2), .ref aDb2, .ref aDl2, .ref aDh2, .ref aDq2, .ref aDw2])), (aDb2, .inl (cy 2, 6, .inl db2)), (aDl2, .inl (cy 2, 6, .inl dl2)), (aDh2, .inl (cy 2, 6, .inl dh2)), (aDq2, .inl (cy 2, 6, .inl dq2)), (aDw2, .inl (cy 3, 6, .inl dw2))]) [(aD, .inr (5, [.int (nI M2), .ref aDb, .ref aDl, .ref aDh, .ref aDq, .ref aDw])), (aDb, .inl (cy 2, 6, .inl (cpN db db2 k))), (aDl, .inl (cy 2, 6, .inl (cpN dl dl2 k))), (aDh, .inl (cy 2, 6, .inl (cpN dh dh2 k))), (aDq, .inl (cy 2, 6, .inl (cpN dq dq2 k))), (aDw, .inl (cy 3, 6, .inl (cpN dw dw2 k))), (aD2, .inr (5, [.int (nI M2), .ref aDb2, .ref aDl2, .ref aDh2, .ref aDq2, .ref aDw2])), (aDb2, .inl (cy 2, 6, .inl db2)), (aDl2, .inl (cy 2, 6, .inl dl2)), (aDh2, .inl (cy 2, 6, .inl dh2)), (aDq2, .inl (cy 2, 6, .inl dq2)), (aDw2, .inl (cy 3, 6, .inl dw2))] → va_S (wA [(aD, .inr (5, [.int (nI M), .ref aDb, .ref aDl, .ref aDh, .ref aDq, .ref aDw])), (aDb, .inl (cy 2, 6, .inl db)), (aDl, .inl (cy 2, 6, .inl dl)), (aDh, .inl (cy 2, 6, .inl dh)), (aDq, .inl (cy 2, 6, .inl dq)), (aDw, .inl (cy 3, 6, .inl dw)), (aD2, .inr (5, [.int (nI M2), .ref aDb2, .ref aDl2, .ref aDh2, .ref aDq2, .ref aDw2])), (aDb2, .inl (cy 2, 6, .inl db2)), (aDl2, .inl (cy 2, 6, .inl dl2)), (aDh2, .inl (cy 2, 6, .inl dh2)), (aDq2, .inl (cy 2, 6, .inl dq2)), (aDw2, .inl (cy 3, 6, .inl dw2))]) s.heap H locs → ∀ ls : Array Slot, lv_has ls 3 [(0, .ref aD), (1, .ref aD2), (2, .int (nI k))] → W p l e ({ frames := 0, cells := 0, slots := 0, locals := 0 } : Room) s m ([.ref aD, .ref aD2] : List Value).toArray below meth c H locs 0 0 (wcZ below ([.ref aD, .ref aD2] : List Value).toArray s G [(aD, .inr (5, [.int (nI M), .ref aDb, .ref aDl, .ref aDh, .ref aDq, .ref aDw])), (aDb, .inl (cy 2, 6, .inl db)), (aDl, .inl (cy 2, 6, .inl dl)), (aDh, .inl (cy 2, 6, .inl dh)), (aDq, .inl (cy 2, 6, .inl dq)), (aDw, .inl (cy 3, 6, .inl dw)), (aD2, .inr (5, [.int (nI M2), .ref aDb2, .ref aDl2, .ref aDh2, .ref aDq2, .ref aDw2])), (aDb2, .inl (cy 2, 6, .inl db2)), (aDl2, .inl (cy 2, 6, .inl dl2)), (aDh2, .inl (cy 2, 6, .inl dh2)), (aDq2, .inl (cy 2, 6, .inl dq2)), (aDw2, .inl (cy 3, 6, .inl dw2))] [(aD, .inr (5, [.int (nI M2), .ref aDb, .ref aDl, .ref aDh, .ref aDq, .ref aDw])), (aDb, .inl (cy 2, 6, .inl db2)), (aDl, .inl (cy 2, 6, .inl dl2)), (aDh, .inl (cy 2, 6, .inl dh2)), (aDq, .inl (cy 2, 6, .inl dq2)), (aDw, .inl (cy 3, 6, .inl dw2)), (aD2, .inr (5, [.int (nI M2), .ref aDb2, .ref aDl2, .ref aDh2, .ref aDq2, .ref aDw2])), (aDb2, .inl (cy 2, 6, .inl db2)), (aDl2, .inl (cy 2, 6, .inl dl2)), (aDh2, .inl (cy 2, 6, .inl dh2)), (aDq2, .inl (cy 2, 6, .inl dq2)), (aDw2, .inl (cy 3, 6, .inl dw2))] (none)) (F0 m 10 ls []) := by
    intro d
    induction d with
    | zero =>
      intro k hkk H locs hP hD hS ls hl
      refine lv_iload_n hx hb dX1_copyFrom_10 rfl (lv_at hl 2 rfl) ?_
      refine lv_bipush (v := 6) hx hb dX1_copyFrom_11 (by decide) ?_
      refine lv_icmp_ge (tgt := 82) hx hb dX1_copyFrom_13 (by decide) (fun c_2 => ?_) (fun c_2 => ?_)
      · have k_3 : 6 ≤ k := (m_leN (a := 6) (b := k) rfl rfl (by omega) (by omega)).mp c_2
        have k_3' : ¬ (k < 6) := by omega
        have hP := va_P.ext hP 1 (g := db2) rfl (fun j hj => cpN_at (by omega))
        have hP := va_P.ext hP 2 (g := dl2) rfl (fun j hj => cpN_at (by omega))
        have hP := va_P.ext hP 3 (g := dh2) rfl (fun j hj => cpN_at (by omega))
        have hP := va_P.ext hP 4 (g := dq2) rfl (fun j hj => cpN_at (by omega))
        have hP := va_P.ext hP 5 (g := dw2) rfl (fun j hj => cpN_at (by omega))
        exact wc_vret hx hb hr hlocks hP hS dX1_copyFrom_82
      · have k_4 : ¬ (6 ≤ k) := fun z => c_2 ((m_leN (a := 6) (b := k) rfl rfl (by omega) (by omega)).mpr z)
        have k_4' : k < 6 := by omega
        exfalso; omega
    | succ d ih =>
      intro k hkk H locs hP hD hS ls hl
      refine lv_iload_n hx hb dX1_copyFrom_10 rfl (lv_at hl 2 rfl) ?_
      refine lv_bipush (v := 6) hx hb dX1_copyFrom_11 (by decide) ?_
      refine lv_icmp_ge (tgt := 82) hx hb dX1_copyFrom_13 (by decide) (fun c_5 => ?_) (fun c_5 => ?_)
      · have k_6 : 6 ≤ k := (m_leN (a := 6) (b := k) rfl rfl (by omega) (by omega)).mp c_5
        have k_6' : ¬ (k < 6) := by omega
        exfalso; omega
      · have k_7 : ¬ (6 ≤ k) := fun z => c_5 ((m_leN (a := 6) (b := k) rfl rfl (by omega) (by omega)).mpr z)
        have k_7' : k < 6 := by omega
        refine lv_aload_n hx hb dX1_copyFrom_16 rfl (lv_at hl 0 rfl) ?_
        refine va_get (D := G) (ci := 5) (v := .ref aDb) (C := RX1) (T := TX1) (N := 6) hx hb hts hi5 hown hK.1 hP 0 rfl rfl 1 (by decide) hf15 (fun _ h9 => h9) rfl dX1_copyFrom_17 ?_
        refine lv_iload_n hx hb dX1_copyFrom_20 rfl (lv_at hl 2 rfl) ?_
        refine lv_aload_n hx hb dX1_copyFrom_21 rfl (lv_at hl 1 rfl) ?_
        refine va_get (D := G) (ci := 5) (v := .ref aDb2) (C := RX1) (T := TX1) (N := 6) hx hb hts hi5 hown hK.1 hP 6 rfl rfl 1 (by decide) hf15 (fun _ h9 => h9) rfl dX1_copyFrom_22 ?_
        refine lv_iload_n hx hb dX1_copyFrom_25 rfl (lv_at hl 2 rfl) ?_
        refine m_iald hx hb hK hP 7 (k := k) rfl rfl (by omega) (Nat.le_of_ble_eq_true rfl) dX1_copyFrom_26 ?_
        refine m_iast hx hb hK hP hD hS 1 (k := k) rfl rfl (by omega) (Nat.le_of_ble_eq_true rfl) dX1_copyFrom_27 (fun H locs hP hD hS => ?_)
        have hP : va_P G vwCl [(aD, .inr (5, [.int (nI M2), .ref aDb, .ref aDl, .ref aDh, .ref aDq, .ref aDw])), (aDb, .inl (cy 2, 6, .inl (upd (cpN db db2 k) k (db2 k)))), (aDl, .inl (cy 2, 6, .inl (cpN dl dl2 k))), (aDh, .inl (cy 2, 6, .inl (cpN dh dh2 k))), (aDq, .inl (cy 2, 6, .inl (cpN dq dq2 k))), (aDw, .inl (cy 3, 6, .inl (cpN dw dw2 k))), (aD2, .inr (5, [.int (nI M2), .ref aDb2, .ref aDl2, .ref aDh2, .ref aDq2, .ref aDw2])), (aDb2, .inl (cy 2, 6, .inl db2)), (aDl2, .inl (cy 2, 6, .inl dl2)), (aDh2, .inl (cy 2, 6, .inl dh2)), (aDq2, .inl (cy 2, 6, .inl dq2)), (aDw2, .inl (cy 3, 6, .inl dw2))] H := hP
        have hD : va_D (wA [(aD, .inr (5, [.int (nI M), .ref aDb, .ref aDl, .ref aDh, .ref aDq, .ref aDw])), (aDb, .inl (cy 2, 6, .inl db)), (aDl, .inl (cy 2, 6, .inl dl)), (aDh, .inl (cy 2, 6, .inl dh)), (aDq, .inl (cy 2, 6, .inl dq)), (aDw, .inl (cy 3, 6, .inl dw)), (aD2, .inr (5, [.int (nI M2), .ref aDb2, .ref aDl2, .ref aDh2, .ref aDq2, .ref aDw2])), (aDb2, .inl (cy 2, 6, .inl db2)), (aDl2, .inl (cy 2, 6, .inl dl2)), (aDh2, .inl (cy 2, 6, .inl dh2)), (aDq2, .inl (cy 2, 6, .inl dq2)), (aDw2, .inl (cy 3, 6, .inl dw2))]) [(aD, .inr (5, [.int (nI M2), .ref aDb, .ref aDl, .ref aDh, .ref aDq, .ref aDw])), (aDb, .inl (cy 2, 6, .inl (upd (cpN db db2 k) k (db2 k)))), (aDl, .inl (cy 2, 6, .inl (cpN dl dl2 k))), (aDh, .inl (cy 2, 6, .inl (cpN dh dh2 k))), (aDq, .inl (cy 2, 6, .inl (cpN dq dq2 k))), (aDw, .inl (cy 3, 6, .inl (cpN dw dw2 k))), (aD2, .inr (5, [.int (nI M2), .ref aDb2, .ref aDl2, .ref aDh2, .ref aDq2, .ref aDw2])), (aDb2, .inl (cy 2, 6, .inl db2)), (aDl2, .inl (cy 2, 6, .inl dl2)), (aDh2, .inl (cy 2, 6, .inl dh2)), (aDq2, .inl (cy 2, 6, .inl dq2)), (aDw2, .inl (cy 3, 6, .inl dw2))] := hD
        refine lv_aload_n hx hb dX1_copyFrom_28 rfl (lv_at hl 0 rfl) ?_
        refine va_get (D := G) (ci := 5) (v := .ref aDl) (C := RX1) (T := TX1) (N := 6) hx hb hts hi5 hown hK.1 hP 0 rfl rfl 2 (by decide) hf19 (fun _ h9 => h9) rfl dX1_copyFrom_29 ?_
        refine lv_iload_n hx hb dX1_copyFrom_32 rfl (lv_at hl 2 rfl) ?_
        refine lv_aload_n hx hb dX1_copyFrom_33 rfl (lv_at hl 1 rfl) ?_
        refine va_get (D := G) (ci := 5) (v := .ref aDl2) (C := RX1) (T := TX1) (N := 6) hx hb hts hi5 hown hK.1 hP 6 rfl rfl 2 (by decide) hf19 (fun _ h9 => h9) rfl dX1_copyFrom_34 ?_
        refine lv_iload_n hx hb dX1_copyFrom_37 rfl (lv_at hl 2 rfl) ?_
        refine m_iald hx hb hK hP 8 (k := k) rfl rfl (by omega) (Nat.le_of_ble_eq_true rfl) dX1_copyFrom_38 ?_
        refine m_iast hx hb hK hP hD hS 2 (k := k) rfl rfl (by omega) (Nat.le_of_ble_eq_true rfl) dX1_copyFrom_39 (fun H locs hP hD hS => ?_)
        have hP : va_P G vwCl [(aD, .inr (5, [.int (nI M2), .ref aDb, .ref aDl, .ref aDh, .ref aDq, .ref aDw])), (aDb, .inl (cy 2, 6, .inl (upd (cpN db db2 k) k (db2 k)))), (aDl, .inl (cy 2, 6, .inl (upd (cpN dl dl2 k) k (dl2 k)))), (aDh, .inl (cy 2, 6, .inl (cpN dh dh2 k))), (aDq, .inl (cy 2, 6, .inl (cpN dq dq2 k))), (aDw, .inl (cy 3, 6, .inl (cpN dw dw2 k))), (aD2, .inr (5, [.int (nI M2), .ref aDb2, .ref aDl2, .ref aDh2, .ref aDq2, .ref aDw2])), (aDb2, .inl (cy 2, 6, .inl db2)), (aDl2, .inl (cy 2, 6, .inl dl2)), (aDh2, .inl (cy 2, 6, .inl dh2)), (aDq2, .inl (cy 2, 6, .inl dq2)), (aDw2, .inl (cy 3, 6, .inl dw2))] H := hP
        have hD : va_D (wA [(aD, .inr (5, [.int (nI M), .ref aDb, .ref aDl, .ref aDh, .ref aDq, .ref aDw])), (aDb, .inl (cy 2, 6, .inl db)), (aDl, .inl (cy 2, 6, .inl dl)), (aDh, .inl (cy 2, 6, .inl dh)), (aDq, .inl (cy 2, 6, .inl dq)), (aDw, .inl (cy 3, 6, .inl dw)), (aD2, .inr (5, [.int (nI M2), .ref aDb2, .ref aDl2, .ref aDh2, .ref aDq2, .ref aDw2])), (aDb2, .inl (cy 2, 6, .inl db2)), (aDl2, .inl (cy 2, 6, .inl dl2)), (aDh2, .inl (cy 2, 6, .inl dh2)), (aDq2, .inl (cy 2, 6, .inl dq2)), (aDw2, .inl (cy 3, 6, .inl dw2))]) [(aD, .inr (5, [.int (nI M2), .ref aDb, .ref aDl, .ref aDh, .ref aDq, .ref aDw])), (aDb, .inl (cy 2, 6, .inl (upd (cpN db db2 k) k (db2 k)))), (aDl, .inl (cy 2, 6, .inl (upd (cpN dl dl2 k) k (dl2 k)))), (aDh, .inl (cy 2, 6, .inl (cpN dh dh2 k))), (aDq, .inl (cy 2, 6, .inl (cpN dq dq2 k))), (aDw, .inl (cy 3, 6, .inl (cpN dw dw2 k))), (aD2, .inr (5, [.int (nI M2), .ref aDb2, .ref aDl2, .ref aDh2, .ref aDq2, .ref aDw2])), (aDb2, .inl (cy 2, 6, .inl db2)), (aDl2, .inl (cy 2, 6, .inl dl2)), (aDh2, .inl (cy 2, 6, .inl dh2)), (aDq2, .inl (cy 2, 6, .inl dq2)), (aDw2, .inl (cy 3, 6, .inl dw2))] := hD
        refine lv_aload_n hx hb dX1_copyFrom_40 rfl (lv_at hl 0 rfl) ?_
        refine va_get (D := G) (ci := 5) (v := .ref aDh) (C := RX1) (T := TX1) (N := 6) hx hb hts hi5 hown hK.1 hP 0 rfl rfl 3 (by decide) hf22 (fun _ h9 => h9) rfl dX1_copyFrom_41 ?_
        refine lv_iload_n hx hb dX1_copyFrom_44 rfl (lv_at hl 2 rfl) ?_
        refine lv_aload_n hx hb dX1_copyFrom_45 rfl (lv_at hl 1 rfl) ?_
        refine va_get (D := G) (ci := 5) (v := .ref aDh2) (C := RX1) (T := TX1) (N := 6) hx hb hts hi5 hown hK.1 hP 6 rfl rfl 3 (by decide) hf22 (fun _ h9 => h9) rfl dX1_copyFrom_46 ?_
        refine lv_iload_n hx hb dX1_copyFrom_49 rfl (lv_at hl 2 rfl) ?_
        refine m_iald hx hb hK hP 9 (k := k) rfl rfl (by omega) (Nat.le_of_ble_eq_true rfl) dX1_copyFrom_50 ?_
        refine m_iast hx hb hK hP hD hS 3 (k := k) rfl rfl (by omega) (Nat.le_of_ble_eq_true rfl) dX1_copyFrom_51 (fun H locs hP hD hS => ?_)
        have hP : va_P G vwCl [(aD, .inr (5, [.int (nI M2), .ref aDb, .ref aDl, .ref aDh, .ref aDq, .ref aDw])), (aDb, .inl (cy 2, 6, .inl (upd (cpN db db2 k) k (db2 k)))), (aDl, .inl (cy 2, 6, .inl (upd (cpN dl dl2 k) k (dl2 k)))), (aDh, .inl (cy 2, 6, .inl (upd (cpN dh dh2 k) k (dh2 k)))), (aDq, .inl (cy 2, 6, .inl (cpN dq dq2 k))), (aDw, .inl (cy 3, 6, .inl (cpN dw dw2 k))), (aD2, .inr (5, [.int (nI M2), .ref aDb2, .ref aDl2, .ref aDh2, .ref aDq2, .ref aDw2])), (aDb2, .inl (cy 2, 6, .inl db2)), (aDl2, .inl (cy 2, 6, .inl dl2)), (aDh2, .inl (cy 2, 6, .inl dh2)), (aDq2, .inl (cy 2, 6, .inl dq2)), (aDw2, .inl (cy 3, 6, .inl dw2))] H := hP
        have hD : va_D (wA [(aD, .inr (5, [.int (nI M), .ref aDb, .ref aDl, .ref aDh, .ref aDq, .ref aDw])), (aDb, .inl (cy 2, 6, .inl db)), (aDl, .inl (cy 2, 6, .inl dl)), (aDh, .inl (cy 2, 6, .inl dh)), (aDq, .inl (cy 2, 6, .inl dq)), (aDw, .inl (cy 3, 6, .inl dw)), (aD2, .inr (5, [.int (nI M2), .ref aDb2, .ref aDl2, .ref aDh2, .ref aDq2, .ref aDw2])), (aDb2, .inl (cy 2, 6, .inl db2)), (aDl2, .inl (cy 2, 6, .inl dl2)), (aDh2, .inl (cy 2, 6, .inl dh2)), (aDq2, .inl (cy 2, 6, .inl dq2)), (aDw2, .inl (cy 3, 6, .inl dw2))]) [(aD, .inr (5, [.int (nI M2), .ref aDb, .ref aDl, .ref aDh, .ref aDq, .ref aDw])), (aDb, .inl (cy 2, 6, .inl (upd (cpN db db2 k) k (db2 k)))), (aDl, .inl (cy 2, 6, .inl (upd (cpN dl dl2 k) k (dl2 k)))), (aDh, .inl (cy 2, 6, .inl (upd (cpN dh dh2 k) k (dh2 k)))), (aDq, .inl (cy 2, 6, .inl (cpN dq dq2 k))), (aDw, .inl (cy 3, 6, .inl (cpN dw dw2 k))), (aD2, .inr (5, [.int (nI M2), .ref aDb2, .ref aDl2, .ref aDh2, .ref aDq2, .ref aDw2])), (aDb2, .inl (cy 2, 6, .inl db2)), (aDl2, .inl (cy 2, 6, .inl dl2)), (aDh2, .inl (cy 2, 6, .inl dh2)), (aDq2, .inl (cy 2, 6, .inl dq2)), (aDw2, .inl (cy 3, 6, .inl dw2))] := hD
        refine lv_aload_n hx hb dX1_copyFrom_52 rfl (lv_at hl 0 rfl) ?_
        refine va_get (D := G) (ci := 5) (v := .ref aDq) (C := RX1) (T := TX1) (N := 6) hx hb hts hi5 hown hK.1 hP 0 rfl rfl 4 (by decide) hf25 (fun _ h9 => h9) rfl dX1_copyFrom_53 ?_
        refine lv_iload_n hx hb dX1_copyFrom_56 rfl (lv_at hl 2 rfl) ?_
        refine lv_aload_n hx hb dX1_copyFrom_57 rfl (lv_at hl 1 rfl) ?_
        refine va_get (D := G) (ci := 5) (v := .ref aDq2) (C := RX1) (T := TX1) (N := 6) hx hb hts hi5 hown hK.1 hP 6 rfl rfl 4 (by decide) hf25 (fun _ h9 => h9) rfl dX1_copyFrom_58 ?_
        refine lv_iload_n hx hb dX1_copyFrom_61 rfl (lv_at hl 2 rfl) ?_
        refine m_iald hx hb hK hP 10 (k := k) rfl rfl (by omega) (Nat.le_of_ble_eq_true rfl) dX1_copyFrom_62 ?_
        refine m_iast hx hb hK hP hD hS 4 (k := k) rfl rfl (by omega) (Nat.le_of_ble_eq_true rfl) dX1_copyFrom_63 (fun H locs hP hD hS => ?_)
        have hP : va_P G vwCl [(aD, .inr (5, [.int (nI M2), .ref aDb, .ref aDl, .ref aDh, .ref aDq, .ref aDw])), (aDb, .inl (cy 2, 6, .inl (upd (cpN db db2 k) k (db2 k)))), (aDl, .inl (cy 2, 6, .inl (upd (cpN dl dl2 k) k (dl2 k)))), (aDh, .inl (cy 2, 6, .inl (upd (cpN dh dh2 k) k (dh2 k)))), (aDq, .inl (cy 2, 6, .inl (upd (cpN dq dq2 k) k (dq2 k)))), (aDw, .inl (cy 3, 6, .inl (cpN dw dw2 k))), (aD2, .inr (5, [.int (nI M2), .ref aDb2, .ref aDl2, .ref aDh2, .ref aDq2, .ref aDw2])), (aDb2, .inl (cy 2, 6, .inl db2)), (aDl2, .inl (cy 2, 6, .inl dl2)), (aDh2, .inl (cy 2, 6, .inl dh2)), (aDq2, .inl (cy 2, 6, .inl dq2)), (aDw2, .inl (cy 3, 6, .inl dw2))] H := hP
        have hD : va_D (wA [(aD, .inr (5, [.int (nI M), .ref aDb, .ref aDl, .ref aDh, .ref aDq, .ref aDw])), (aDb, .inl (cy 2, 6, .inl db)), (aDl, .inl (cy 2, 6, .inl dl)), (aDh, .inl (cy 2, 6, .inl dh)), (aDq, .inl (cy 2, 6, .inl dq)), (aDw, .inl (cy 3, 6, .inl dw)), (aD2, .inr (5, [.int (nI M2), .ref aDb2, .ref aDl2, .ref aDh2, .ref aDq2, .ref aDw2])), (aDb2, .inl (cy 2, 6, .inl db2)), (aDl2, .inl (cy 2, 6, .inl dl2)), (aDh2, .inl (cy 2, 6, .inl dh2)), (aDq2, .inl (cy 2, 6, .inl dq2)), (aDw2, .inl (cy 3, 6, .inl dw2))]) [(aD, .inr (5, [.int (nI M2), .ref aDb, .ref aDl, .ref aDh, .ref aDq, .ref aDw])), (aDb, .inl (cy 2, 6, .inl (upd (cpN db db2 k) k (db2 k)))), (aDl, .inl (cy 2, 6, .inl (upd (cpN dl dl2 k) k (dl2 k)))), (aDh, .inl (cy 2, 6, .inl (upd (cpN dh dh2 k) k (dh2 k)))), (aDq, .inl (cy 2, 6, .inl (upd (cpN dq dq2 k) k (dq2 k)))), (aDw, .inl (cy 3, 6, .inl (cpN dw dw2 k))), (aD2, .inr (5, [.int (nI M2), .ref aDb2, .ref aDl2, .ref aDh2, .ref aDq2, .ref aDw2])), (aDb2, .inl (cy 2, 6, .inl db2)), (aDl2, .inl (cy 2, 6, .inl dl2)), (aDh2, .inl (cy 2, 6, .inl dh2)), (aDq2, .inl (cy 2, 6, .inl dq2)), (aDw2, .inl (cy 3, 6, .inl dw2))] := hD
        refine lv_aload_n hx hb dX1_copyFrom_64 rfl (lv_at hl 0 rfl) ?_
        refine va_get (D := G) (ci := 5) (v := .ref aDw) (C := RX1) (T := TX1) (N := 6) hx hb hts hi5 hown hK.1 hP 0 rfl rfl 5 (by decide) hf28 (fun _ h9 => h9) rfl dX1_copyFrom_65 ?_
        refine lv_iload_n hx hb dX1_copyFrom_68 rfl (lv_at hl 2 rfl) ?_
        refine lv_aload_n hx hb dX1_copyFrom_69 rfl (lv_at hl 1 rfl) ?_
        refine va_get (D := G) (ci := 5) (v := .ref aDw2) (C := RX1) (T := TX1) (N := 6) hx hb hts hi5 hown hK.1 hP 6 rfl rfl 5 (by decide) hf28 (fun _ h9 => h9) rfl dX1_copyFrom_70 ?_
        refine lv_iload_n hx hb dX1_copyFrom_73 rfl (lv_at hl 2 rfl) ?_
        refine m_zald hx hb hK hP 11 (k := k) rfl rfl (by omega) (Nat.le_of_ble_eq_true rfl) dX1_copyFrom_74 ?_
        refine m_zast hx hb hK hP hD hS 5 (k := k) rfl rfl (by omega) (Nat.le_of_ble_eq_true rfl) (hz1 _ (by omega)) dX1_copyFrom_75 (fun H locs hP hD hS => ?_)
        have hP : va_P G vwCl [(aD, .inr (5, [.int (nI M2), .ref aDb, .ref aDl, .ref aDh, .ref aDq, .ref aDw])), (aDb, .inl (cy 2, 6, .inl (upd (cpN db db2 k) k (db2 k)))), (aDl, .inl (cy 2, 6, .inl (upd (cpN dl dl2 k) k (dl2 k)))), (aDh, .inl (cy 2, 6, .inl (upd (cpN dh dh2 k) k (dh2 k)))), (aDq, .inl (cy 2, 6, .inl (upd (cpN dq dq2 k) k (dq2 k)))), (aDw, .inl (cy 3, 6, .inl (upd (cpN dw dw2 k) k (dw2 k)))), (aD2, .inr (5, [.int (nI M2), .ref aDb2, .ref aDl2, .ref aDh2, .ref aDq2, .ref aDw2])), (aDb2, .inl (cy 2, 6, .inl db2)), (aDl2, .inl (cy 2, 6, .inl dl2)), (aDh2, .inl (cy 2, 6, .inl dh2)), (aDq2, .inl (cy 2, 6, .inl dq2)), (aDw2, .inl (cy 3, 6, .inl dw2))] H := hP
        have hD : va_D (wA [(aD, .inr (5, [.int (nI M), .ref aDb, .ref aDl, .ref aDh, .ref aDq, .ref aDw])), (aDb, .inl (cy 2, 6, .inl db)), (aDl, .inl (cy 2, 6, .inl dl)), (aDh, .inl (cy 2, 6, .inl dh)), (aDq, .inl (cy 2, 6, .inl dq)), (aDw, .inl (cy 3, 6, .inl dw)), (aD2, .inr (5, [.int (nI M2), .ref aDb2, .ref aDl2, .ref aDh2, .ref aDq2, .ref aDw2])), (aDb2, .inl (cy 2, 6, .inl db2)), (aDl2, .inl (cy 2, 6, .inl dl2)), (aDh2, .inl (cy 2, 6, .inl dh2)), (aDq2, .inl (cy 2, 6, .inl dq2)), (aDw2, .inl (cy 3, 6, .inl dw2))]) [(aD, .inr (5, [.int (nI M2), .ref aDb, .ref aDl, .ref aDh, .ref aDq, .ref aDw])), (aDb, .inl (cy 2, 6, .inl (upd (cpN db db2 k) k (db2 k)))), (aDl, .inl (cy 2, 6, .inl (upd (cpN dl dl2 k) k (dl2 k)))), (aDh, .inl (cy 2, 6, .inl (upd (cpN dh dh2 k) k (dh2 k)))), (aDq, .inl (cy 2, 6, .inl (upd (cpN dq dq2 k) k (dq2 k)))), (aDw, .inl (cy 3, 6, .inl (upd (cpN dw dw2 k) k (dw2 k)))), (aD2, .inr (5, [.int (nI M2), .ref aDb2, .ref aDl2, .ref aDh2, .ref aDq2, .ref aDw2])), (aDb2, .inl (cy 2, 6, .inl db2)), (aDl2, .inl (cy 2, 6, .inl dl2)), (aDh2, .inl (cy 2, 6, .inl dh2)), (aDq2, .inl (cy 2, 6, .inl dq2)), (aDw2, .inl (cy 3, 6, .inl dw2))] := hD
        refine lv_iinc (v := nI (k + 1)) (lv' := [(2, .int (nI (k + 1))), (0, .ref aD), (1, .ref aD2)]) hx hb dX1_copyFrom_76 hl (k := 2) rfl (m_inc _) (by decide) rfl (fun ls hl => ?_)
        refine lv_goto (tgt := 10) hx hb dX1_copyFrom_79 (by decide) ?_
        have e_8 : cpN db db2 (k + 1) = upd (cpN db db2 k) k (db2 k) := rfl
        have e_9 : cpN dl dl2 (k + 1) = upd (cpN dl dl2 k) k (dl2 k) := rfl
        have e_10 : cpN dh dh2 (k + 1) = upd (cpN dh dh2 k) k (dh2 k) := rfl
        have e_11 : cpN dq dq2 (k + 1) = upd (cpN dq dq2 k) k (dq2 k) := rfl
        have e_12 : cpN dw dw2 (k + 1) = upd (cpN dw dw2 k) k (dw2 k) := rfl
        exact ih (k + 1) (by omega) H locs (by rw [e_8, e_9, e_10, e_11, e_12]; exact hP) (m_D12 hD) hS ls (lv_sub hl [1, 2, 0] rfl)
  exact L_1 6 0 (by omega) _ _ hP (m_D12 hD) hS ls (lv_sub hl [1, 2, 0] rfl)

set_option maxRecDepth 100000 in
set_option maxHeartbeats 1000000 in
theorem c_X2_copyFrom (l : Launch) (G : va_G) (cy : Nat → ClassId) (aE aEk aEb aEl E : Nat) (ek eb el : Nat → Int32) (aE2 aEk2 aEb2 aEl2 E2 : Nat) (ek2 eb2 el2 : Nat → Int32) (hz1 : czN 10 ek2) : WC l yX2_copyFrom wsX2_copyFrom { frames := 0, cells := 0, slots := 0, locals := 0 } G (PB G cy [(aE, .inr (6, [.int (nI E), .ref aEk, .ref aEb, .ref aEl])), (aEk, .inl (cy 1, 10, .inl ek)), (aEb, .inl (cy 2, 10, .inl eb)), (aEl, .inl (cy 2, 10, .inl el)), (aE2, .inr (6, [.int (nI E2), .ref aEk2, .ref aEb2, .ref aEl2])), (aEk2, .inl (cy 1, 10, .inl ek2)), (aEb2, .inl (cy 2, 10, .inl eb2)), (aEl2, .inl (cy 2, 10, .inl el2))]) [.ref aE, .ref aE2] [(aE, .inr (6, [.int (nI E), .ref aEk, .ref aEb, .ref aEl])), (aEk, .inl (cy 1, 10, .inl ek)), (aEb, .inl (cy 2, 10, .inl eb)), (aEl, .inl (cy 2, 10, .inl el)), (aE2, .inr (6, [.int (nI E2), .ref aEk2, .ref aEb2, .ref aEl2])), (aEk2, .inl (cy 1, 10, .inl ek2)), (aEb2, .inl (cy 2, 10, .inl eb2)), (aEl2, .inl (cy 2, 10, .inl el2))] [(aE, .inr (6, [.int (nI E2), .ref aEk, .ref aEb, .ref aEl])), (aEk, .inl (cy 1, 10, .inl ek2)), (aEb, .inl (cy 2, 10, .inl eb2)), (aEl, .inl (cy 2, 10, .inl el2)), (aE2, .inr (6, [.int (nI E2), .ref aEk2, .ref aEb2, .ref aEl2])), (aEk2, .inl (cy 1, 10, .inl ek2)), (aEb2, .inl (cy 2, 10, .inl eb2)), (aEl2, .inl (cy 2, 10, .inl el2))] (none) := by
  refine WC.ofW (cc := cX2_copyFrom) (maxL := 3) (ret := none) (by decide) rfl (Nat.le_of_ble_eq_true rfl) ?_
  intro p e s m below meth c S9 hr hlocks hPB hD hS ls hl
  obtain ⟨hx, hb, hml, hown, hts⟩ := id S9
  obtain ⟨hP, hK⟩ := hPB
  have hl : lv_has ls 3 [(0, .ref aE), (1, .ref aE2)] := hl
  have hi6 : ∀ w ∈ wsX20, w ∈ wsX2_copyFrom := by decide +kernel
  have hf9 := hts (.fieldLink RX2 9 "BathLeague$Events" "count" "I") (by decide +kernel)
  have hf15 := hts (.fieldLink RX2 15 "BathLeague$Events" "kind" "[C") (by decide +kernel)
  have hf19 := hts (.fieldLink RX2 19 "BathLeague$Events" "bath" "[I") (by decide +kernel)
  have hf23 := hts (.fieldLink RX2 23 "BathLeague$Events" "litres" "[I") (by decide +kernel)
  refine lv_aload_n hx hb dX2_copyFrom_0 rfl (lv_at hl 0 rfl) ?_
  refine lv_aload_n hx hb dX2_copyFrom_1 rfl (lv_at hl 1 rfl) ?_
  refine va_get (D := G) (ci := 6) (v := .int (nI E2)) (C := RX2) (T := TX2) (N := 4) hx hb hts hi6 hown hK.1 hP 4 rfl rfl 0 (by decide) hf9 (fun _ h9 => h9) rfl dX2_copyFrom_2 ?_
  refine va_put (D := G) (ci := 6) (v := .int (nI E2)) (ty := .int) (C := RX2) (T := TX2) (N := 4) hx hb hts hi6 tyX2 tyX2_ok nmX2 hown hK.1 hP hD hS 0 rfl rfl 0 (by decide) hf9 (fun _ h9 => h9) rfl (by decide +kernel) rfl rfl (Nat.le_of_ble_eq_true rfl) dX2_copyFrom_5 (fun H locs hP hD hS => ?_)
  have hP : va_P G vwCl [(aE, .inr (6, [.int (nI E2), .ref aEk, .ref aEb, .ref aEl])), (aEk, .inl (cy 1, 10, .inl ek)), (aEb, .inl (cy 2, 10, .inl eb)), (aEl, .inl (cy 2, 10, .inl el)), (aE2, .inr (6, [.int (nI E2), .ref aEk2, .ref aEb2, .ref aEl2])), (aEk2, .inl (cy 1, 10, .inl ek2)), (aEb2, .inl (cy 2, 10, .inl eb2)), (aEl2, .inl (cy 2, 10, .inl el2))] H := hP
  have hD : va_D (wA [(aE, .inr (6, [.int (nI E), .ref aEk, .ref aEb, .ref aEl])), (aEk, .inl (cy 1, 10, .inl ek)), (aEb, .inl (cy 2, 10, .inl eb)), (aEl, .inl (cy 2, 10, .inl el)), (aE2, .inr (6, [.int (nI E2), .ref aEk2, .ref aEb2, .ref aEl2])), (aEk2, .inl (cy 1, 10, .inl ek2)), (aEb2, .inl (cy 2, 10, .inl eb2)), (aEl2, .inl (cy 2, 10, .inl el2))]) [(aE, .inr (6, [.int (nI E2), .ref aEk, .ref aEb, .ref aEl])), (aEk, .inl (cy 1, 10, .inl ek)), (aEb, .inl (cy 2, 10, .inl eb)), (aEl, .inl (cy 2, 10, .inl el)), (aE2, .inr (6, [.int (nI E2), .ref aEk2, .ref aEb2, .ref aEl2])), (aEk2, .inl (cy 1, 10, .inl ek2)), (aEb2, .inl (cy 2, 10, .inl eb2)), (aEl2, .inl (cy 2, 10, .inl el2))] := hD
  refine lv_iconst (v := 0) hx hb dX2_copyFrom_8 (by decide) ?_
  refine lv_istore_n (lv' := [(2, .int 0), (0, .ref aE), (1, .ref aE2)]) hx hb dX2_copyFrom_9 rfl hl (by decide) rfl (fun ls hl => ?_)
  have L_1 : ∀ (d k : Nat), k + d = 10 → ∀ (H : Heap) (locs : List Loc), va_P G vwCl [(aE, .inr (6, [.int (nI E2), .ref aEk, .ref aEb, .ref aEl])), (aEk, .inl (cy 1, 10, .inl (cpN ek ek2 k))), (aEb, .inl (cy 2, 10, .inl (cpN eb eb2 k))), (aEl, .inl (cy 2, 10, .inl (cpN el el2 k))), (aE2, .inr (6, [.int (nI E2), .ref aEk2, .ref aEb2, .ref aEl2])), (aEk2, .inl (cy 1, 10, .inl ek2)), (aEb2, .inl (cy 2, 10, .inl eb2)), (aEl2, .inl (cy 2, 10, .inl el2))] H → va_D (wA [(aE, .inr (6, [.int (nI E), .ref aEk, .ref aEb, .ref aEl])), (aEk, .inl (cy 1, 10, .inl ek)), (aEb, .inl (cy 2, 10, .inl eb)), (aEl, .inl (cy 2, 10, .inl el)), (aE2, .inr (6, [.int (nI E2), .ref aEk2, .ref aEb2, .ref aEl2])), (aEk2, .inl (cy 1, 10, .inl ek2)), (aEb2, .inl (cy 2, 10, .inl eb2)), (aEl2, .inl (cy 2, 10, .inl el2))]) [(aE, .inr (6, [.int (nI E2), .ref aEk, .ref aEb, .ref aEl])), (aEk, .inl (cy 1, 10, .inl (cpN ek ek2 k))), (aEb, .inl (cy 2, 10, .inl (cpN eb eb2 k))), (aEl, .inl (cy 2, 10, .inl (cpN el el2 k))), (aE2, .inr (6, [.int (nI E2), .ref aEk2, .ref aEb2, .ref aEl2])), (aEk2, .inl (cy 1, 10, .inl ek2)), (aEb2, .inl (cy 2, 10, .inl eb2)), (aEl2, .inl (cy 2, 10, .inl el2))] → va_S (wA [(aE, .inr (6, [.int (nI E), .ref aEk, .ref aEb, .ref aEl])), (aEk, .inl (cy 1, 10, .inl ek)), (aEb, .inl (cy 2, 10, .inl eb)), (aEl, .inl (cy 2, 10, .inl el)), (aE2, .inr (6, [.int (nI E2), .ref aEk2, .ref aEb2, .ref aEl2])), (aEk2, .inl (cy 1, 10, .inl ek2)), (aEb2, .inl (cy 2, 10, .inl eb2)), (aEl2, .inl (cy 2, 10, .inl el2))]) s.heap H locs → ∀ ls : Array Slot, lv_has ls 3 [(0, .ref aE), (1, .ref aE2), (2, .int (nI k))] → W p l e ({ frames := 0, cells := 0, slots := 0, locals := 0 } : Room) s m ([.ref aE, .ref aE2] : List Value).toArray below meth c H locs 0 0 (wcZ below ([.ref aE, .ref aE2] : List Value).toArray s G [(aE, .inr (6, [.int (nI E), .ref aEk, .ref aEb, .ref aEl])), (aEk, .inl (cy 1, 10, .inl ek)), (aEb, .inl (cy 2, 10, .inl eb)), (aEl, .inl (cy 2, 10, .inl el)), (aE2, .inr (6, [.int (nI E2), .ref aEk2, .ref aEb2, .ref aEl2])), (aEk2, .inl (cy 1, 10, .inl ek2)), (aEb2, .inl (cy 2, 10, .inl eb2)), (aEl2, .inl (cy 2, 10, .inl el2))] [(aE, .inr (6, [.int (nI E2), .ref aEk, .ref aEb, .ref aEl])), (aEk, .inl (cy 1, 10, .inl ek2)), (aEb, .inl (cy 2, 10, .inl eb2)), (aEl, .inl (cy 2, 10, .inl el2)), (aE2, .inr (6, [.int (nI E2), .ref aEk2, .ref aEb2, .ref aEl2])), (aEk2, .inl (cy 1, 10, .inl ek2)), (aEb2, .inl (cy 2, 10, .inl eb2)), (aEl2, .inl (cy 2, 10, .inl el2))] (none)) (F0 m 10 ls []) := by
    intro d
    induction d with
    | zero =>
      intro k hkk H locs hP hD hS ls hl
      refine lv_iload_n hx hb dX2_copyFrom_10 rfl (lv_at hl 2 rfl) ?_
      refine lv_bipush (v := 10) hx hb dX2_copyFrom_11 (by decide) ?_
      refine lv_icmp_ge (tgt := 58) hx hb dX2_copyFrom_13 (by decide) (fun c_2 => ?_) (fun c_2 => ?_)
      · have k_3 : 10 ≤ k := (m_leN (a := 10) (b := k) rfl rfl (by omega) (by omega)).mp c_2
        have k_3' : ¬ (k < 10) := by omega
        have hP := va_P.ext hP 1 (g := ek2) rfl (fun j hj => cpN_at (by omega))
        have hP := va_P.ext hP 2 (g := eb2) rfl (fun j hj => cpN_at (by omega))
        have hP := va_P.ext hP 3 (g := el2) rfl (fun j hj => cpN_at (by omega))
        exact wc_vret hx hb hr hlocks hP hS dX2_copyFrom_58
      · have k_4 : ¬ (10 ≤ k) := fun z => c_2 ((m_leN (a := 10) (b := k) rfl rfl (by omega) (by omega)).mpr z)
        have k_4' : k < 10 := by omega
        exfalso; omega
    | succ d ih =>
      intro k hkk H locs hP hD hS ls hl
      refine lv_iload_n hx hb dX2_copyFrom_10 rfl (lv_at hl 2 rfl) ?_
      refine lv_bipush (v := 10) hx hb dX2_copyFrom_11 (by decide) ?_
      refine lv_icmp_ge (tgt := 58) hx hb dX2_copyFrom_13 (by decide) (fun c_5 => ?_) (fun c_5 => ?_)
      · have k_6 : 10 ≤ k := (m_leN (a := 10) (b := k) rfl rfl (by omega) (by omega)).mp c_5
        have k_6' : ¬ (k < 10) := by omega
        exfalso; omega
      · have k_7 : ¬ (10 ≤ k) := fun z => c_5 ((m_leN (a := 10) (b := k) rfl rfl (by omega) (by omega)).mpr z)
        have k_7' : k < 10 := by omega
        refine lv_aload_n hx hb dX2_copyFrom_16 rfl (lv_at hl 0 rfl) ?_
        refine va_get (D := G) (ci := 6) (v := .ref aEk) (C := RX2) (T := TX2) (N := 4) hx hb hts hi6 hown hK.1 hP 0 rfl rfl 1 (by decide) hf15 (fun _ h9 => h9) rfl dX2_copyFrom_17 ?_
        refine lv_iload_n hx hb dX2_copyFrom_20 rfl (lv_at hl 2 rfl) ?_
        refine lv_aload_n hx hb dX2_copyFrom_21 rfl (lv_at hl 1 rfl) ?_
        refine va_get (D := G) (ci := 6) (v := .ref aEk2) (C := RX2) (T := TX2) (N := 4) hx hb hts hi6 hown hK.1 hP 4 rfl rfl 1 (by decide) hf15 (fun _ h9 => h9) rfl dX2_copyFrom_22 ?_
        refine lv_iload_n hx hb dX2_copyFrom_25 rfl (lv_at hl 2 rfl) ?_
        refine m_cald hx hb hK hP 5 (k := k) rfl rfl (by omega) (Nat.le_of_ble_eq_true rfl) dX2_copyFrom_26 ?_
        refine m_cast hx hb hK hP hD hS 1 (k := k) rfl rfl (by omega) (Nat.le_of_ble_eq_true rfl) (hz1 _ (by omega)) dX2_copyFrom_27 (fun H locs hP hD hS => ?_)
        have hP : va_P G vwCl [(aE, .inr (6, [.int (nI E2), .ref aEk, .ref aEb, .ref aEl])), (aEk, .inl (cy 1, 10, .inl (upd (cpN ek ek2 k) k (ek2 k)))), (aEb, .inl (cy 2, 10, .inl (cpN eb eb2 k))), (aEl, .inl (cy 2, 10, .inl (cpN el el2 k))), (aE2, .inr (6, [.int (nI E2), .ref aEk2, .ref aEb2, .ref aEl2])), (aEk2, .inl (cy 1, 10, .inl ek2)), (aEb2, .inl (cy 2, 10, .inl eb2)), (aEl2, .inl (cy 2, 10, .inl el2))] H := hP
        have hD : va_D (wA [(aE, .inr (6, [.int (nI E), .ref aEk, .ref aEb, .ref aEl])), (aEk, .inl (cy 1, 10, .inl ek)), (aEb, .inl (cy 2, 10, .inl eb)), (aEl, .inl (cy 2, 10, .inl el)), (aE2, .inr (6, [.int (nI E2), .ref aEk2, .ref aEb2, .ref aEl2])), (aEk2, .inl (cy 1, 10, .inl ek2)), (aEb2, .inl (cy 2, 10, .inl eb2)), (aEl2, .inl (cy 2, 10, .inl el2))]) [(aE, .inr (6, [.int (nI E2), .ref aEk, .ref aEb, .ref aEl])), (aEk, .inl (cy 1, 10, .inl (upd (cpN ek ek2 k) k (ek2 k)))), (aEb, .inl (cy 2, 10, .inl (cpN eb eb2 k))), (aEl, .inl (cy 2, 10, .inl (cpN el el2 k))), (aE2, .inr (6, [.int (nI E2), .ref aEk2, .ref aEb2, .ref aEl2])), (aEk2, .inl (cy 1, 10, .inl ek2)), (aEb2, .inl (cy 2, 10, .inl eb2)), (aEl2, .inl (cy 2, 10, .inl el2))] := hD
        refine lv_aload_n hx hb dX2_copyFrom_28 rfl (lv_at hl 0 rfl) ?_
        refine va_get (D := G) (ci := 6) (v := .ref aEb) (C := RX2) (T := TX2) (N := 4) hx hb hts hi6 hown hK.1 hP 0 rfl rfl 2 (by decide) hf19 (fun _ h9 => h9) rfl dX2_copyFrom_29 ?_
        refine lv_iload_n hx hb dX2_copyFrom_32 rfl (lv_at hl 2 rfl) ?_
        refine lv_aload_n hx hb dX2_copyFrom_33 rfl (lv_at hl 1 rfl) ?_
        refine va_get (D := G) (ci := 6) (v := .ref aEb2) (C := RX2) (T := TX2) (N := 4) hx hb hts hi6 hown hK.1 hP 4 rfl rfl 2 (by decide) hf19 (fun _ h9 => h9) rfl dX2_copyFrom_34 ?_
        refine lv_iload_n hx hb dX2_copyFrom_37 rfl (lv_at hl 2 rfl) ?_
        refine m_iald hx hb hK hP 6 (k := k) rfl rfl (by omega) (Nat.le_of_ble_eq_true rfl) dX2_copyFrom_38 ?_
        refine m_iast hx hb hK hP hD hS 2 (k := k) rfl rfl (by omega) (Nat.le_of_ble_eq_true rfl) dX2_copyFrom_39 (fun H locs hP hD hS => ?_)
        have hP : va_P G vwCl [(aE, .inr (6, [.int (nI E2), .ref aEk, .ref aEb, .ref aEl])), (aEk, .inl (cy 1, 10, .inl (upd (cpN ek ek2 k) k (ek2 k)))), (aEb, .inl (cy 2, 10, .inl (upd (cpN eb eb2 k) k (eb2 k)))), (aEl, .inl (cy 2, 10, .inl (cpN el el2 k))), (aE2, .inr (6, [.int (nI E2), .ref aEk2, .ref aEb2, .ref aEl2])), (aEk2, .inl (cy 1, 10, .inl ek2)), (aEb2, .inl (cy 2, 10, .inl eb2)), (aEl2, .inl (cy 2, 10, .inl el2))] H := hP
        have hD : va_D (wA [(aE, .inr (6, [.int (nI E), .ref aEk, .ref aEb, .ref aEl])), (aEk, .inl (cy 1, 10, .inl ek)), (aEb, .inl (cy 2, 10, .inl eb)), (aEl, .inl (cy 2, 10, .inl el)), (aE2, .inr (6, [.int (nI E2), .ref aEk2, .ref aEb2, .ref aEl2])), (aEk2, .inl (cy 1, 10, .inl ek2)), (aEb2, .inl (cy 2, 10, .inl eb2)), (aEl2, .inl (cy 2, 10, .inl el2))]) [(aE, .inr (6, [.int (nI E2), .ref aEk, .ref aEb, .ref aEl])), (aEk, .inl (cy 1, 10, .inl (upd (cpN ek ek2 k) k (ek2 k)))), (aEb, .inl (cy 2, 10, .inl (upd (cpN eb eb2 k) k (eb2 k)))), (aEl, .inl (cy 2, 10, .inl (cpN el el2 k))), (aE2, .inr (6, [.int (nI E2), .ref aEk2, .ref aEb2, .ref aEl2])), (aEk2, .inl (cy 1, 10, .inl ek2)), (aEb2, .inl (cy 2, 10, .inl eb2)), (aEl2, .inl (cy 2, 10, .inl el2))] := hD
        refine lv_aload_n hx hb dX2_copyFrom_40 rfl (lv_at hl 0 rfl) ?_
        refine va_get (D := G) (ci := 6) (v := .ref aEl) (C := RX2) (T := TX2) (N := 4) hx hb hts hi6 hown hK.1 hP 0 rfl rfl 3 (by decide) hf23 (fun _ h9 => h9) rfl dX2_copyFrom_41 ?_
        refine lv_iload_n hx hb dX2_copyFrom_44 rfl (lv_at hl 2 rfl) ?_
        refine lv_aload_n hx hb dX2_copyFrom_45 rfl (lv_at hl 1 rfl) ?_
        refine va_get (D := G) (ci := 6) (v := .ref aEl2) (C := RX2) (T := TX2) (N := 4) hx hb hts hi6 hown hK.1 hP 4 rfl rfl 3 (by decide) hf23 (fun _ h9 => h9) rfl dX2_copyFrom_46 ?_
        refine lv_iload_n hx hb dX2_copyFrom_49 rfl (lv_at hl 2 rfl) ?_
        refine m_iald hx hb hK hP 7 (k := k) rfl rfl (by omega) (Nat.le_of_ble_eq_true rfl) dX2_copyFrom_50 ?_
        refine m_iast hx hb hK hP hD hS 3 (k := k) rfl rfl (by omega) (Nat.le_of_ble_eq_true rfl) dX2_copyFrom_51 (fun H locs hP hD hS => ?_)
        have hP : va_P G vwCl [(aE, .inr (6, [.int (nI E2), .ref aEk, .ref aEb, .ref aEl])), (aEk, .inl (cy 1, 10, .inl (upd (cpN ek ek2 k) k (ek2 k)))), (aEb, .inl (cy 2, 10, .inl (upd (cpN eb eb2 k) k (eb2 k)))), (aEl, .inl (cy 2, 10, .inl (upd (cpN el el2 k) k (el2 k)))), (aE2, .inr (6, [.int (nI E2), .ref aEk2, .ref aEb2, .ref aEl2])), (aEk2, .inl (cy 1, 10, .inl ek2)), (aEb2, .inl (cy 2, 10, .inl eb2)), (aEl2, .inl (cy 2, 10, .inl el2))] H := hP
        have hD : va_D (wA [(aE, .inr (6, [.int (nI E), .ref aEk, .ref aEb, .ref aEl])), (aEk, .inl (cy 1, 10, .inl ek)), (aEb, .inl (cy 2, 10, .inl eb)), (aEl, .inl (cy 2, 10, .inl el)), (aE2, .inr (6, [.int (nI E2), .ref aEk2, .ref aEb2, .ref aEl2])), (aEk2, .inl (cy 1, 10, .inl ek2)), (aEb2, .inl (cy 2, 10, .inl eb2)), (aEl2, .inl (cy 2, 10, .inl el2))]) [(aE, .inr (6, [.int (nI E2), .ref aEk, .ref aEb, .ref aEl])), (aEk, .inl (cy 1, 10, .inl (upd (cpN ek ek2 k) k (ek2 k)))), (aEb, .inl (cy 2, 10, .inl (upd (cpN eb eb2 k) k (eb2 k)))), (aEl, .inl (cy 2, 10, .inl (upd (cpN el el2 k) k (el2 k)))), (aE2, .inr (6, [.int (nI E2), .ref aEk2, .ref aEb2, .ref aEl2])), (aEk2, .inl (cy 1, 10, .inl ek2)), (aEb2, .inl (cy 2, 10, .inl eb2)), (aEl2, .inl (cy 2, 10, .inl el2))] := hD
        refine lv_iinc (v := nI (k + 1)) (lv' := [(2, .int (nI (k + 1))), (0, .ref aE), (1, .ref aE2)]) hx hb dX2_copyFrom_52 hl (k := 2) rfl (m_inc _) (by decide) rfl (fun ls hl => ?_)
        refine lv_goto (tgt := 10) hx hb dX2_copyFrom_55 (by decide) ?_
        have e_8 : cpN ek ek2 (k + 1) = upd (cpN ek ek2 k) k (ek2 k) := rfl
        have e_9 : cpN eb eb2 (k + 1) = upd (cpN eb eb2 k) k (eb2 k) := rfl
        have e_10 : cpN el el2 (k + 1) = upd (cpN el el2 k) k (el2 k) := rfl
        exact ih (k + 1) (by omega) H locs (by rw [e_8, e_9, e_10]; exact hP) (m_D8 hD) hS ls (lv_sub hl [1, 2, 0] rfl)
  exact L_1 10 0 (by omega) _ _ hP (m_D8 hD) hS ls (lv_sub hl [1, 2, 0] rfl)

set_option maxRecDepth 100000 in
set_option maxHeartbeats 1000000 in
theorem c_X2_note (l : Launch) (G : va_G) (cy : Nat → ClassId) (aE aEk aEb aEl E : Nat) (ek eb el : Nat → Int32) (x b q : Int32) (hE : E ≤ 10) (hx9 : vp_nar .char x = x) (hz : czN 10 ek) : WC l yX2_note wsX2_note { frames := 1, cells := 0, slots := 0, locals := 21 } G (PB G cy [(aE, .inr (6, [.int (nI E), .ref aEk, .ref aEb, .ref aEl])), (aEk, .inl (cy 1, 10, .inl ek)), (aEb, .inl (cy 2, 10, .inl eb)), (aEl, .inl (cy 2, 10, .inl el))]) [.ref aE, .int x, .int b, .int q] [(aE, .inr (6, [.int (nI E), .ref aEk, .ref aEb, .ref aEl])), (aEk, .inl (cy 1, 10, .inl ek)), (aEb, .inl (cy 2, 10, .inl eb)), (aEl, .inl (cy 2, 10, .inl el))] [(aE, .inr (6, [.int (nI (evc E)), .ref aEk, .ref aEb, .ref aEl])), (aEk, .inl (cy 1, 10, .inl (psh ek x))), (aEb, .inl (cy 2, 10, .inl (psh eb b))), (aEl, .inl (cy 2, 10, .inl (psh el q)))] (none) := by
  refine WC.ofW (cc := cX2_note) (maxL := 5) (ret := none) (by decide) rfl (Nat.le_of_ble_eq_true rfl) ?_
  intro p e s m below meth c S9 hr hlocks hPB hD hS ls hl
  obtain ⟨hx, hb, hml, hown, hts⟩ := id S9
  obtain ⟨hP, hK⟩ := hPB
  have hl : lv_has ls 5 [(0, .ref aE), (1, .int x), (2, .int b), (3, .int q)] := hl
  have hi6 : ∀ w ∈ wsX20, w ∈ wsX2_note := by decide +kernel
  have hf9 := hts (.fieldLink RX2 9 "BathLeague$Events" "count" "I") (by decide +kernel)
  have hf15 := hts (.fieldLink RX2 15 "BathLeague$Events" "kind" "[C") (by decide +kernel)
  have hf19 := hts (.fieldLink RX2 19 "BathLeague$Events" "bath" "[I") (by decide +kernel)
  have hf23 := hts (.fieldLink RX2 23 "BathLeague$Events" "litres" "[I") (by decide +kernel)
  have hmm1 := hts (.methodLink RX2 26 Lib.Math.min.name) (by decide +kernel)
  have hmm2 := hts (.static Lib.Math.min.name) (by decide +kernel)
  have hmm3 := hts (.initialized "java/lang/Math") (by decide +kernel)
  have hmm4 := hts (.code Lib.Math.min.name Lib.Math.min.code 2 (some .int)) (by decide +kernel)
  refine lv_bipush (v := 9) hx hb dX2_note_0 (by decide) ?_
  refine lv_istore (lv' := [(4, .int 9), (0, .ref aE), (1, .int x), (2, .int b), (3, .int q)]) hx hb dX2_note_2 hl (by decide) rfl (fun ls hl => ?_)
  have L_1 : ∀ (d k : Nat), k + d = 9 → ∀ (f1 : Nat → Int32), ∀ (f2 : Nat → Int32), ∀ (f3 : Nat → Int32), (shf d f1 = shf 9 ek) → (shf d f2 = shf 9 eb) → (shf d f3 = shf 9 el) → (czN 10 f1) → ∀ (H : Heap) (locs : List Loc), va_P G vwCl [(aE, .inr (6, [.int (nI E), .ref aEk, .ref aEb, .ref aEl])), (aEk, .inl (cy 1, 10, .inl f1)), (aEb, .inl (cy 2, 10, .inl f2)), (aEl, .inl (cy 2, 10, .inl f3))] H → va_D (wA [(aE, .inr (6, [.int (nI E), .ref aEk, .ref aEb, .ref aEl])), (aEk, .inl (cy 1, 10, .inl ek)), (aEb, .inl (cy 2, 10, .inl eb)), (aEl, .inl (cy 2, 10, .inl el))]) [(aE, .inr (6, [.int (nI E), .ref aEk, .ref aEb, .ref aEl])), (aEk, .inl (cy 1, 10, .inl f1)), (aEb, .inl (cy 2, 10, .inl f2)), (aEl, .inl (cy 2, 10, .inl f3))] → va_S (wA [(aE, .inr (6, [.int (nI E), .ref aEk, .ref aEb, .ref aEl])), (aEk, .inl (cy 1, 10, .inl ek)), (aEb, .inl (cy 2, 10, .inl eb)), (aEl, .inl (cy 2, 10, .inl el))]) s.heap H locs → ∀ ls : Array Slot, lv_has ls 5 [(0, .ref aE), (1, .int x), (2, .int b), (3, .int q), (4, .int (nI d))] → W p l e ({ frames := 1, cells := 0, slots := 0, locals := 21 } : Room) s m ([.ref aE, .int x, .int b, .int q] : List Value).toArray below meth c H locs 0 0 (wcZ below ([.ref aE, .int x, .int b, .int q] : List Value).toArray s G [(aE, .inr (6, [.int (nI E), .ref aEk, .ref aEb, .ref aEl])), (aEk, .inl (cy 1, 10, .inl ek)), (aEb, .inl (cy 2, 10, .inl eb)), (aEl, .inl (cy 2, 10, .inl el))] [(aE, .inr (6, [.int (nI (evc E)), .ref aEk, .ref aEb, .ref aEl])), (aEk, .inl (cy 1, 10, .inl (psh ek x))), (aEb, .inl (cy 2, 10, .inl (psh eb b))), (aEl, .inl (cy 2, 10, .inl (psh el q)))] (none)) (F0 m 4 ls []) := by
    intro d
    induction d with
    | zero =>
      intro k hkk f1 f2 f3 hs1 hs2 hs3 hz H locs hP hD hS ls hl
      refine lv_iload hx hb dX2_note_4 (lv_at hl 4 rfl) ?_
      refine lv_if_le (tgt := 63) hx hb dX2_note_6 (by decide) (fun c_2 => ?_) (fun c_2 => ?_)
      · have k_3 : 0 ≤ 0 := (m_leN (a := 0) (b := 0) rfl rfl (by omega) (by omega)).mp c_2
        have k_3' : ¬ (0 < 0) := by omega
        refine lv_aload_n hx hb dX2_note_63 rfl (lv_at hl 0 rfl) ?_
        refine va_get (D := G) (ci := 6) (v := .ref aEk) (C := RX2) (T := TX2) (N := 4) hx hb hts hi6 hown hK.1 hP 0 rfl rfl 1 (by decide) hf15 (fun _ h9 => h9) rfl dX2_note_64 ?_
        refine lv_iconst (v := 0) hx hb dX2_note_67 (by decide) ?_
        refine lv_iload_n hx hb dX2_note_68 rfl (lv_at hl 1 rfl) ?_
        refine m_cast hx hb hK hP hD hS 1 (k := 0) rfl rfl (by omega) (Nat.le_of_ble_eq_true rfl) hx9 dX2_note_69 (fun H locs hP hD hS => ?_)
        have hP : va_P G vwCl [(aE, .inr (6, [.int (nI E), .ref aEk, .ref aEb, .ref aEl])), (aEk, .inl (cy 1, 10, .inl (upd f1 0 x))), (aEb, .inl (cy 2, 10, .inl f2)), (aEl, .inl (cy 2, 10, .inl f3))] H := hP
        have hD : va_D (wA [(aE, .inr (6, [.int (nI E), .ref aEk, .ref aEb, .ref aEl])), (aEk, .inl (cy 1, 10, .inl ek)), (aEb, .inl (cy 2, 10, .inl eb)), (aEl, .inl (cy 2, 10, .inl el))]) [(aE, .inr (6, [.int (nI E), .ref aEk, .ref aEb, .ref aEl])), (aEk, .inl (cy 1, 10, .inl (upd f1 0 x))), (aEb, .inl (cy 2, 10, .inl f2)), (aEl, .inl (cy 2, 10, .inl f3))] := hD
        refine lv_aload_n hx hb dX2_note_70 rfl (lv_at hl 0 rfl) ?_
        refine va_get (D := G) (ci := 6) (v := .ref aEb) (C := RX2) (T := TX2) (N := 4) hx hb hts hi6 hown hK.1 hP 0 rfl rfl 2 (by decide) hf19 (fun _ h9 => h9) rfl dX2_note_71 ?_
        refine lv_iconst (v := 0) hx hb dX2_note_74 (by decide) ?_
        refine lv_iload_n hx hb dX2_note_75 rfl (lv_at hl 2 rfl) ?_
        refine m_iast hx hb hK hP hD hS 2 (k := 0) rfl rfl (by omega) (Nat.le_of_ble_eq_true rfl) dX2_note_76 (fun H locs hP hD hS => ?_)
        have hP : va_P G vwCl [(aE, .inr (6, [.int (nI E), .ref aEk, .ref aEb, .ref aEl])), (aEk, .inl (cy 1, 10, .inl (upd f1 0 x))), (aEb, .inl (cy 2, 10, .inl (upd f2 0 b))), (aEl, .inl (cy 2, 10, .inl f3))] H := hP
        have hD : va_D (wA [(aE, .inr (6, [.int (nI E), .ref aEk, .ref aEb, .ref aEl])), (aEk, .inl (cy 1, 10, .inl ek)), (aEb, .inl (cy 2, 10, .inl eb)), (aEl, .inl (cy 2, 10, .inl el))]) [(aE, .inr (6, [.int (nI E), .ref aEk, .ref aEb, .ref aEl])), (aEk, .inl (cy 1, 10, .inl (upd f1 0 x))), (aEb, .inl (cy 2, 10, .inl (upd f2 0 b))), (aEl, .inl (cy 2, 10, .inl f3))] := hD
        refine lv_aload_n hx hb dX2_note_77 rfl (lv_at hl 0 rfl) ?_
        refine va_get (D := G) (ci := 6) (v := .ref aEl) (C := RX2) (T := TX2) (N := 4) hx hb hts hi6 hown hK.1 hP 0 rfl rfl 3 (by decide) hf23 (fun _ h9 => h9) rfl dX2_note_78 ?_
        refine lv_iconst (v := 0) hx hb dX2_note_81 (by decide) ?_
        refine lv_iload_n hx hb dX2_note_82 rfl (lv_at hl 3 rfl) ?_
        refine m_iast hx hb hK hP hD hS 3 (k := 0) rfl rfl (by omega) (Nat.le_of_ble_eq_true rfl) dX2_note_83 (fun H locs hP hD hS => ?_)
        have hP : va_P G vwCl [(aE, .inr (6, [.int (nI E), .ref aEk, .ref aEb, .ref aEl])), (aEk, .inl (cy 1, 10, .inl (upd f1 0 x))), (aEb, .inl (cy 2, 10, .inl (upd f2 0 b))), (aEl, .inl (cy 2, 10, .inl (upd f3 0 q)))] H := hP
        have hD : va_D (wA [(aE, .inr (6, [.int (nI E), .ref aEk, .ref aEb, .ref aEl])), (aEk, .inl (cy 1, 10, .inl ek)), (aEb, .inl (cy 2, 10, .inl eb)), (aEl, .inl (cy 2, 10, .inl el))]) [(aE, .inr (6, [.int (nI E), .ref aEk, .ref aEb, .ref aEl])), (aEk, .inl (cy 1, 10, .inl (upd f1 0 x))), (aEb, .inl (cy 2, 10, .inl (upd f2 0 b))), (aEl, .inl (cy 2, 10, .inl (upd f3 0 q)))] := hD
        refine lv_aload_n hx hb dX2_note_84 rfl (lv_at hl 0 rfl) ?_
        refine lv_bipush (v := 10) hx hb dX2_note_85 (by decide) ?_
        refine lv_aload_n hx hb dX2_note_87 rfl (lv_at hl 0 rfl) ?_
        refine va_get (D := G) (ci := 6) (v := .int (nI E)) (C := RX2) (T := TX2) (N := 4) hx hb hts hi6 hown hK.1 hP 0 rfl rfl 0 (by decide) hf9 (fun _ h9 => h9) rfl dX2_note_88 ?_
        refine lv_iconst (v := 1) hx hb dX2_note_91 (by decide) ?_
        refine lv_iadd hx hb dX2_note_92 ?_
        refine va_mmin hx hb (hml.trans hl.1.symm) hown hmm1 hmm2 hmm3 hmm4 (by decide) (Nat.le_of_ble_eq_true rfl) (Nat.zero_le _) (Nat.zero_le _) dX2_note_93 ?_
        refine va_put (D := G) (ci := 6) (v := .int (if (nI E) + 1 < 10 then (nI E) + 1 else 10)) (ty := .int) (C := RX2) (T := TX2) (N := 4) hx hb hts hi6 tyX2 tyX2_ok nmX2 hown hK.1 hP hD hS 0 rfl rfl 0 (by decide) hf9 (fun _ h9 => h9) rfl (by decide +kernel) rfl rfl (Nat.le_of_ble_eq_true rfl) dX2_note_96 (fun H locs hP hD hS => ?_)
        have hP : va_P G vwCl [(aE, .inr (6, [.int (if (nI E) + 1 < 10 then (nI E) + 1 else 10), .ref aEk, .ref aEb, .ref aEl])), (aEk, .inl (cy 1, 10, .inl (upd f1 0 x))), (aEb, .inl (cy 2, 10, .inl (upd f2 0 b))), (aEl, .inl (cy 2, 10, .inl (upd f3 0 q)))] H := hP
        have hD : va_D (wA [(aE, .inr (6, [.int (nI E), .ref aEk, .ref aEb, .ref aEl])), (aEk, .inl (cy 1, 10, .inl ek)), (aEb, .inl (cy 2, 10, .inl eb)), (aEl, .inl (cy 2, 10, .inl el))]) [(aE, .inr (6, [.int (if (nI E) + 1 < 10 then (nI E) + 1 else 10), .ref aEk, .ref aEb, .ref aEl])), (aEk, .inl (cy 1, 10, .inl (upd f1 0 x))), (aEb, .inl (cy 2, 10, .inl (upd f2 0 b))), (aEl, .inl (cy 2, 10, .inl (upd f3 0 q)))] := hD
        have hP := va_P.ext hP 1 (g := psh ek x) rfl (fun j hj => psh_of hs1 hj)
        have hP := va_P.ext hP 2 (g := psh eb b) rfl (fun j hj => psh_of hs2 hj)
        have hP := va_P.ext hP 3 (g := psh el q) rfl (fun j hj => psh_of hs3 hj)
        have hee := evc_eq hE
        exact wc_vret hx hb hr hlocks (by rw [hee]; exact hP) hS dX2_note_99
      · have k_4 : ¬ (0 ≤ 0) := fun z => c_2 ((m_leN (a := 0) (b := 0) rfl rfl (by omega) (by omega)).mpr z)
        have k_4' : 0 < 0 := by omega
        exfalso; omega
    | succ d ih =>
      intro k hkk f1 f2 f3 hs1 hs2 hs3 hz H locs hP hD hS ls hl
      refine lv_iload hx hb dX2_note_4 (lv_at hl 4 rfl) ?_
      refine lv_if_le (tgt := 63) hx hb dX2_note_6 (by decide) (fun c_5 => ?_) (fun c_5 => ?_)
      · have k_6 : (d + 1) ≤ 0 := (m_leN (a := (d + 1)) (b := 0) rfl rfl (by omega) (by omega)).mp c_5
        have k_6' : ¬ (0 < (d + 1)) := by omega
        exfalso; omega
      · have k_7 : ¬ ((d + 1) ≤ 0) := fun z => c_5 ((m_leN (a := (d + 1)) (b := 0) rfl rfl (by omega) (by omega)).mpr z)
        have k_7' : 0 < (d + 1) := by omega
        refine lv_aload_n hx hb dX2_note_9 rfl (lv_at hl 0 rfl) ?_
        refine va_get (D := G) (ci := 6) (v := .ref aEk) (C := RX2) (T := TX2) (N := 4) hx hb hts hi6 hown hK.1 hP 0 rfl rfl 1 (by decide) hf15 (fun _ h9 => h9) rfl dX2_note_10 ?_
        refine lv_iload hx hb dX2_note_13 (lv_at hl 4 rfl) ?_
        refine lv_aload_n hx hb dX2_note_15 rfl (lv_at hl 0 rfl) ?_
        refine va_get (D := G) (ci := 6) (v := .ref aEk) (C := RX2) (T := TX2) (N := 4) hx hb hts hi6 hown hK.1 hP 0 rfl rfl 1 (by decide) hf15 (fun _ h9 => h9) rfl dX2_note_16 ?_
        refine lv_iload hx hb dX2_note_19 (lv_at hl 4 rfl) ?_
        refine lv_iconst (v := 1) hx hb dX2_note_21 (by decide) ?_
        refine lv_isub hx hb dX2_note_22 ?_
        refine m_cald hx hb hK hP 1 (k := d) rfl (m_pred rfl) (by omega) (Nat.le_of_ble_eq_true rfl) dX2_note_23 ?_
        refine m_cast hx hb hK hP hD hS 1 (k := (d + 1)) rfl rfl (by omega) (Nat.le_of_ble_eq_true rfl) (hz d (by omega)) dX2_note_24 (fun H locs hP hD hS => ?_)
        have hP : va_P G vwCl [(aE, .inr (6, [.int (nI E), .ref aEk, .ref aEb, .ref aEl])), (aEk, .inl (cy 1, 10, .inl (upd f1 (d + 1) (f1 d)))), (aEb, .inl (cy 2, 10, .inl f2)), (aEl, .inl (cy 2, 10, .inl f3))] H := hP
        have hD : va_D (wA [(aE, .inr (6, [.int (nI E), .ref aEk, .ref aEb, .ref aEl])), (aEk, .inl (cy 1, 10, .inl ek)), (aEb, .inl (cy 2, 10, .inl eb)), (aEl, .inl (cy 2, 10, .inl el))]) [(aE, .inr (6, [.int (nI E), .ref aEk, .ref aEb, .ref aEl])), (aEk, .inl (cy 1, 10, .inl (upd f1 (d + 1) (f1 d)))), (aEb, .inl (cy 2, 10, .inl f2)), (aEl, .inl (cy 2, 10, .inl f3))] := hD
        refine lv_aload_n hx hb dX2_note_25 rfl (lv_at hl 0 rfl) ?_
        refine va_get (D := G) (ci := 6) (v := .ref aEb) (C := RX2) (T := TX2) (N := 4) hx hb hts hi6 hown hK.1 hP 0 rfl rfl 2 (by decide) hf19 (fun _ h9 => h9) rfl dX2_note_26 ?_
        refine lv_iload hx hb dX2_note_29 (lv_at hl 4 rfl) ?_
        refine lv_aload_n hx hb dX2_note_31 rfl (lv_at hl 0 rfl) ?_
        refine va_get (D := G) (ci := 6) (v := .ref aEb) (C := RX2) (T := TX2) (N := 4) hx hb hts hi6 hown hK.1 hP 0 rfl rfl 2 (by decide) hf19 (fun _ h9 => h9) rfl dX2_note_32 ?_
        refine lv_iload hx hb dX2_note_35 (lv_at hl 4 rfl) ?_
        refine lv_iconst (v := 1) hx hb dX2_note_37 (by decide) ?_
        refine lv_isub hx hb dX2_note_38 ?_
        refine m_iald hx hb hK hP 2 (k := d) rfl (m_pred rfl) (by omega) (Nat.le_of_ble_eq_true rfl) dX2_note_39 ?_
        refine m_iast hx hb hK hP hD hS 2 (k := (d + 1)) rfl rfl (by omega) (Nat.le_of_ble_eq_true rfl) dX2_note_40 (fun H locs hP hD hS => ?_)
        have hP : va_P G vwCl [(aE, .inr (6, [.int (nI E), .ref aEk, .ref aEb, .ref aEl])), (aEk, .inl (cy 1, 10, .inl (upd f1 (d + 1) (f1 d)))), (aEb, .inl (cy 2, 10, .inl (upd f2 (d + 1) (f2 d)))), (aEl, .inl (cy 2, 10, .inl f3))] H := hP
        have hD : va_D (wA [(aE, .inr (6, [.int (nI E), .ref aEk, .ref aEb, .ref aEl])), (aEk, .inl (cy 1, 10, .inl ek)), (aEb, .inl (cy 2, 10, .inl eb)), (aEl, .inl (cy 2, 10, .inl el))]) [(aE, .inr (6, [.int (nI E), .ref aEk, .ref aEb, .ref aEl])), (aEk, .inl (cy 1, 10, .inl (upd f1 (d + 1) (f1 d)))), (aEb, .inl (cy 2, 10, .inl (upd f2 (d + 1) (f2 d)))), (aEl, .inl (cy 2, 10, .inl f3))] := hD
        refine lv_aload_n hx hb dX2_note_41 rfl (lv_at hl 0 rfl) ?_
        refine va_get (D := G) (ci := 6) (v := .ref aEl) (C := RX2) (T := TX2) (N := 4) hx hb hts hi6 hown hK.1 hP 0 rfl rfl 3 (by decide) hf23 (fun _ h9 => h9) rfl dX2_note_42 ?_
        refine lv_iload hx hb dX2_note_45 (lv_at hl 4 rfl) ?_
        refine lv_aload_n hx hb dX2_note_47 rfl (lv_at hl 0 rfl) ?_
        refine va_get (D := G) (ci := 6) (v := .ref aEl) (C := RX2) (T := TX2) (N := 4) hx hb hts hi6 hown hK.1 hP 0 rfl rfl 3 (by decide) hf23 (fun _ h9 => h9) rfl dX2_note_48 ?_
        refine lv_iload hx hb dX2_note_51 (lv_at hl 4 rfl) ?_
        refine lv_iconst (v := 1) hx hb dX2_note_53 (by decide) ?_
        refine lv_isub hx hb dX2_note_54 ?_
        refine m_iald hx hb hK hP 3 (k := d) rfl (m_pred rfl) (by omega) (Nat.le_of_ble_eq_true rfl) dX2_note_55 ?_
        refine m_iast hx hb hK hP hD hS 3 (k := (d + 1)) rfl rfl (by omega) (Nat.le_of_ble_eq_true rfl) dX2_note_56 (fun H locs hP hD hS => ?_)
        have hP : va_P G vwCl [(aE, .inr (6, [.int (nI E), .ref aEk, .ref aEb, .ref aEl])), (aEk, .inl (cy 1, 10, .inl (upd f1 (d + 1) (f1 d)))), (aEb, .inl (cy 2, 10, .inl (upd f2 (d + 1) (f2 d)))), (aEl, .inl (cy 2, 10, .inl (upd f3 (d + 1) (f3 d))))] H := hP
        have hD : va_D (wA [(aE, .inr (6, [.int (nI E), .ref aEk, .ref aEb, .ref aEl])), (aEk, .inl (cy 1, 10, .inl ek)), (aEb, .inl (cy 2, 10, .inl eb)), (aEl, .inl (cy 2, 10, .inl el))]) [(aE, .inr (6, [.int (nI E), .ref aEk, .ref aEb, .ref aEl])), (aEk, .inl (cy 1, 10, .inl (upd f1 (d + 1) (f1 d)))), (aEb, .inl (cy 2, 10, .inl (upd f2 (d + 1) (f2 d)))), (aEl, .inl (cy 2, 10, .inl (upd f3 (d + 1) (f3 d))))] := hD
        refine lv_iinc (v := nI d) (lv' := [(4, .int (nI d)), (0, .ref aE), (1, .int x), (2, .int b), (3, .int q)]) hx hb dX2_note_57 hl (k := 4) rfl (m_dec _) (by decide) rfl (fun ls hl => ?_)
        refine lv_goto (tgt := 4) hx hb dX2_note_60 (by decide) ?_
        exact ih (k + 1) (by omega) (upd f1 (d + 1) (f1 d)) (upd f2 (d + 1) (f2 d)) (upd f3 (d + 1) (f3 d)) hs1 hs2 hs3 (czN_upd hz (hz d (by omega))) H locs hP (m_D4 hD) hS ls (lv_sub hl [1, 2, 3, 4, 0] rfl)
  exact L_1 9 0 (by omega) ek eb el rfl rfl rfl hz _ _ hP (m_D4 hD) hS ls (lv_sub hl [1, 2, 3, 4, 0] rfl)

set_option maxRecDepth 100000 in
set_option maxHeartbeats 1000000 in
theorem c_X6_copyFrom (l : Launch) (G : va_G) (cy : Nat → ClassId) (aT : Nat) (t1 t2 t3 t4 t5 t6 : Int32) (aT2 : Nat) (t12 t22 t32 t42 t52 t62 : Int32) : WC l yX6_copyFrom wsX6_copyFrom { frames := 0, cells := 0, slots := 0, locals := 0 } G (PB G cy [(aT, .inr (10, [.int t1, .int t2, .int t3, .int t4, .int t5, .int t6])), (aT2, .inr (10, [.int t12, .int t22, .int t32, .int t42, .int t52, .int t62]))]) [.ref aT, .ref aT2] [(aT, .inr (10, [.int t1, .int t2, .int t3, .int t4, .int t5, .int t6])), (aT2, .inr (10, [.int t12, .int t22, .int t32, .int t42, .int t52, .int t62]))] [(aT, .inr (10, [.int t12, .int t22, .int t32, .int t42, .int t52, .int t62])), (aT2, .inr (10, [.int t12, .int t22, .int t32, .int t42, .int t52, .int t62]))] (none) := by
  refine WC.ofW (cc := cX6_copyFrom) (maxL := 2) (ret := none) (by decide) rfl (Nat.le_of_ble_eq_true rfl) ?_
  intro p e s m below meth c S9 hr hlocks hPB hD hS ls hl
  obtain ⟨hx, hb, hml, hown, hts⟩ := id S9
  obtain ⟨hP, hK⟩ := hPB
  have hl : lv_has ls 2 [(0, .ref aT), (1, .ref aT2)] := hl
  have hi10 : ∀ w ∈ wsX60, w ∈ wsX6_copyFrom := by decide +kernel
  have hf7 := hts (.fieldLink RX6 7 "BathLeague$Totals" "ticks" "I") (by decide +kernel)
  have hf13 := hts (.fieldLink RX6 13 "BathLeague$Totals" "defections" "I") (by decide +kernel)
  have hf16 := hts (.fieldLink RX6 16 "BathLeague$Totals" "litresTapped" "I") (by decide +kernel)
  have hf19 := hts (.fieldLink RX6 19 "BathLeague$Totals" "litresDrained" "I") (by decide +kernel)
  have hf22 := hts (.fieldLink RX6 22 "BathLeague$Totals" "heatTapped" "I") (by decide +kernel)
  have hf25 := hts (.fieldLink RX6 25 "BathLeague$Totals" "heatLost" "I") (by decide +kernel)
  refine lv_aload_n hx hb dX6_copyFrom_0 rfl (lv_at hl 0 rfl) ?_
  refine lv_aload_n hx hb dX6_copyFrom_1 rfl (lv_at hl 1 rfl) ?_
  refine va_get (D := G) (ci := 10) (v := .int t12) (C := RX6) (T := TX6) (N := 6) hx hb hts hi10 hown hK.1 hP 1 rfl rfl 0 (by decide) hf7 (fun _ h9 => h9) rfl dX6_copyFrom_2 ?_
  refine va_put (D := G) (ci := 10) (v := .int t12) (ty := .int) (C := RX6) (T := TX6) (N := 6) hx hb hts hi10 tyX6 tyX6_ok nmX6 hown hK.1 hP hD hS 0 rfl rfl 0 (by decide) hf7 (fun _ h9 => h9) rfl (by decide +kernel) rfl rfl (Nat.le_of_ble_eq_true rfl) dX6_copyFrom_5 (fun H locs hP hD hS => ?_)
  have hP : va_P G vwCl [(aT, .inr (10, [.int t12, .int t2, .int t3, .int t4, .int t5, .int t6])), (aT2, .inr (10, [.int t12, .int t22, .int t32, .int t42, .int t52, .int t62]))] H := hP
  have hD : va_D (wA [(aT, .inr (10, [.int t1, .int t2, .int t3, .int t4, .int t5, .int t6])), (aT2, .inr (10, [.int t12, .int t22, .int t32, .int t42, .int t52, .int t62]))]) [(aT, .inr (10, [.int t12, .int t2, .int t3, .int t4, .int t5, .int t6])), (aT2, .inr (10, [.int t12, .int t22, .int t32, .int t42, .int t52, .int t62]))] := hD
  refine lv_aload_n hx hb dX6_copyFrom_8 rfl (lv_at hl 0 rfl) ?_
  refine lv_aload_n hx hb dX6_copyFrom_9 rfl (lv_at hl 1 rfl) ?_
  refine va_get (D := G) (ci := 10) (v := .int t22) (C := RX6) (T := TX6) (N := 6) hx hb hts hi10 hown hK.1 hP 1 rfl rfl 1 (by decide) hf13 (fun _ h9 => h9) rfl dX6_copyFrom_10 ?_
  refine va_put (D := G) (ci := 10) (v := .int t22) (ty := .int) (C := RX6) (T := TX6) (N := 6) hx hb hts hi10 tyX6 tyX6_ok nmX6 hown hK.1 hP hD hS 0 rfl rfl 1 (by decide) hf13 (fun _ h9 => h9) rfl (by decide +kernel) rfl rfl (Nat.le_of_ble_eq_true rfl) dX6_copyFrom_13 (fun H locs hP hD hS => ?_)
  have hP : va_P G vwCl [(aT, .inr (10, [.int t12, .int t22, .int t3, .int t4, .int t5, .int t6])), (aT2, .inr (10, [.int t12, .int t22, .int t32, .int t42, .int t52, .int t62]))] H := hP
  have hD : va_D (wA [(aT, .inr (10, [.int t1, .int t2, .int t3, .int t4, .int t5, .int t6])), (aT2, .inr (10, [.int t12, .int t22, .int t32, .int t42, .int t52, .int t62]))]) [(aT, .inr (10, [.int t12, .int t22, .int t3, .int t4, .int t5, .int t6])), (aT2, .inr (10, [.int t12, .int t22, .int t32, .int t42, .int t52, .int t62]))] := hD
  refine lv_aload_n hx hb dX6_copyFrom_16 rfl (lv_at hl 0 rfl) ?_
  refine lv_aload_n hx hb dX6_copyFrom_17 rfl (lv_at hl 1 rfl) ?_
  refine va_get (D := G) (ci := 10) (v := .int t32) (C := RX6) (T := TX6) (N := 6) hx hb hts hi10 hown hK.1 hP 1 rfl rfl 2 (by decide) hf16 (fun _ h9 => h9) rfl dX6_copyFrom_18 ?_
  refine va_put (D := G) (ci := 10) (v := .int t32) (ty := .int) (C := RX6) (T := TX6) (N := 6) hx hb hts hi10 tyX6 tyX6_ok nmX6 hown hK.1 hP hD hS 0 rfl rfl 2 (by decide) hf16 (fun _ h9 => h9) rfl (by decide +kernel) rfl rfl (Nat.le_of_ble_eq_true rfl) dX6_copyFrom_21 (fun H locs hP hD hS => ?_)
  have hP : va_P G vwCl [(aT, .inr (10, [.int t12, .int t22, .int t32, .int t4, .int t5, .int t6])), (aT2, .inr (10, [.int t12, .int t22, .int t32, .int t42, .int t52, .int t62]))] H := hP
  have hD : va_D (wA [(aT, .inr (10, [.int t1, .int t2, .int t3, .int t4, .int t5, .int t6])), (aT2, .inr (10, [.int t12, .int t22, .int t32, .int t42, .int t52, .int t62]))]) [(aT, .inr (10, [.int t12, .int t22, .int t32, .int t4, .int t5, .int t6])), (aT2, .inr (10, [.int t12, .int t22, .int t32, .int t42, .int t52, .int t62]))] := hD
  refine lv_aload_n hx hb dX6_copyFrom_24 rfl (lv_at hl 0 rfl) ?_
  refine lv_aload_n hx hb dX6_copyFrom_25 rfl (lv_at hl 1 rfl) ?_
  refine va_get (D := G) (ci := 10) (v := .int t42) (C := RX6) (T := TX6) (N := 6) hx hb hts hi10 hown hK.1 hP 1 rfl rfl 3 (by decide) hf19 (fun _ h9 => h9) rfl dX6_copyFrom_26 ?_
  refine va_put (D := G) (ci := 10) (v := .int t42) (ty := .int) (C := RX6) (T := TX6) (N := 6) hx hb hts hi10 tyX6 tyX6_ok nmX6 hown hK.1 hP hD hS 0 rfl rfl 3 (by decide) hf19 (fun _ h9 => h9) rfl (by decide +kernel) rfl rfl (Nat.le_of_ble_eq_true rfl) dX6_copyFrom_29 (fun H locs hP hD hS => ?_)
  have hP : va_P G vwCl [(aT, .inr (10, [.int t12, .int t22, .int t32, .int t42, .int t5, .int t6])), (aT2, .inr (10, [.int t12, .int t22, .int t32, .int t42, .int t52, .int t62]))] H := hP
  have hD : va_D (wA [(aT, .inr (10, [.int t1, .int t2, .int t3, .int t4, .int t5, .int t6])), (aT2, .inr (10, [.int t12, .int t22, .int t32, .int t42, .int t52, .int t62]))]) [(aT, .inr (10, [.int t12, .int t22, .int t32, .int t42, .int t5, .int t6])), (aT2, .inr (10, [.int t12, .int t22, .int t32, .int t42, .int t52, .int t62]))] := hD
  refine lv_aload_n hx hb dX6_copyFrom_32 rfl (lv_at hl 0 rfl) ?_
  refine lv_aload_n hx hb dX6_copyFrom_33 rfl (lv_at hl 1 rfl) ?_
  refine va_get (D := G) (ci := 10) (v := .int t52) (C := RX6) (T := TX6) (N := 6) hx hb hts hi10 hown hK.1 hP 1 rfl rfl 4 (by decide) hf22 (fun _ h9 => h9) rfl dX6_copyFrom_34 ?_
  refine va_put (D := G) (ci := 10) (v := .int t52) (ty := .int) (C := RX6) (T := TX6) (N := 6) hx hb hts hi10 tyX6 tyX6_ok nmX6 hown hK.1 hP hD hS 0 rfl rfl 4 (by decide) hf22 (fun _ h9 => h9) rfl (by decide +kernel) rfl rfl (Nat.le_of_ble_eq_true rfl) dX6_copyFrom_37 (fun H locs hP hD hS => ?_)
  have hP : va_P G vwCl [(aT, .inr (10, [.int t12, .int t22, .int t32, .int t42, .int t52, .int t6])), (aT2, .inr (10, [.int t12, .int t22, .int t32, .int t42, .int t52, .int t62]))] H := hP
  have hD : va_D (wA [(aT, .inr (10, [.int t1, .int t2, .int t3, .int t4, .int t5, .int t6])), (aT2, .inr (10, [.int t12, .int t22, .int t32, .int t42, .int t52, .int t62]))]) [(aT, .inr (10, [.int t12, .int t22, .int t32, .int t42, .int t52, .int t6])), (aT2, .inr (10, [.int t12, .int t22, .int t32, .int t42, .int t52, .int t62]))] := hD
  refine lv_aload_n hx hb dX6_copyFrom_40 rfl (lv_at hl 0 rfl) ?_
  refine lv_aload_n hx hb dX6_copyFrom_41 rfl (lv_at hl 1 rfl) ?_
  refine va_get (D := G) (ci := 10) (v := .int t62) (C := RX6) (T := TX6) (N := 6) hx hb hts hi10 hown hK.1 hP 1 rfl rfl 5 (by decide) hf25 (fun _ h9 => h9) rfl dX6_copyFrom_42 ?_
  refine va_put (D := G) (ci := 10) (v := .int t62) (ty := .int) (C := RX6) (T := TX6) (N := 6) hx hb hts hi10 tyX6 tyX6_ok nmX6 hown hK.1 hP hD hS 0 rfl rfl 5 (by decide) hf25 (fun _ h9 => h9) rfl (by decide +kernel) rfl rfl (Nat.le_of_ble_eq_true rfl) dX6_copyFrom_45 (fun H locs hP hD hS => ?_)
  have hP : va_P G vwCl [(aT, .inr (10, [.int t12, .int t22, .int t32, .int t42, .int t52, .int t62])), (aT2, .inr (10, [.int t12, .int t22, .int t32, .int t42, .int t52, .int t62]))] H := hP
  have hD : va_D (wA [(aT, .inr (10, [.int t1, .int t2, .int t3, .int t4, .int t5, .int t6])), (aT2, .inr (10, [.int t12, .int t22, .int t32, .int t42, .int t52, .int t62]))]) [(aT, .inr (10, [.int t12, .int t22, .int t32, .int t42, .int t52, .int t62])), (aT2, .inr (10, [.int t12, .int t22, .int t32, .int t42, .int t52, .int t62]))] := hD
  exact wc_vret hx hb hr hlocks hP hS dX6_copyFrom_48
