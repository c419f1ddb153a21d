set_option maxRecDepth 100000 in
set_option maxHeartbeats 1000000 in
theorem c_X7_roundedDegrees (l : Launch) (G : va_G) (cy : Nat → ClassId) (h q : Int32) : RO l yX7_roundedDegrees wsX7_roundedDegrees { frames := 0, cells := 0, slots := 0, locals := 0 } (PB G cy []) [.int h, .int q] (some (.int (rdeg h q))) := by
  refine RO.ofW (cc := cX7_roundedDegrees) (maxL := 2) (ret := (some .int)) (by decide) rfl (Nat.le_of_ble_eq_true rfl) ?_
  intro p e s m below meth c S9 hr hlocks hPB ls hl
  obtain ⟨hx, hb, hml, hown, hts⟩ := id S9
  obtain ⟨hP, hK⟩ := hPB
  have hl : lv_has ls 2 [(0, .int h), (1, .int q)] := hl
  refine lv_iload_n hx hb dX7_roundedDegrees_0 rfl (lv_at hl 1 rfl) ?_
  refine lv_if_le (tgt := 10) hx hb dX7_roundedDegrees_1 (by decide) (fun c_1 => ?_) (fun c_1 => ?_)
  · have c_1' : ¬ 0 < q := Int32.not_lt.mpr c_1
    refine lv_iconst (v := 0) hx hb dX7_roundedDegrees_10 (by decide) ?_
    exact ro_iret hx hb hr hlocks (by simp [rdeg, c_1', c_1]) dX7_roundedDegrees_11
  · have c_1' : 0 < q := Int32.not_le.mp c_1
    refine lv_iload_n hx hb dX7_roundedDegrees_4 rfl (lv_at hl 0 rfl) ?_
    refine lv_iload_n hx hb dX7_roundedDegrees_5 rfl (lv_at hl 1 rfl) ?_
    refine lv_idiv hx hb dX7_roundedDegrees_6 (m_nz c_1) ?_
    refine lv_goto (tgt := 11) hx hb dX7_roundedDegrees_7 (by decide) ?_
    exact ro_iret hx hb hr hlocks (by simp [rdeg, c_1', c_1]) dX7_roundedDegrees_11

set_option maxRecDepth 100000 in
set_option maxHeartbeats 1000000 in
theorem c_X0_has (l : Launch) (G : va_G) (cy : Nat → ClassId) (aB aV aH aP aM N : Nat) (v h pl me : Nat → Int32) (i : Int32) : RO l yX0_has wsX0_has { frames := 0, cells := 0, slots := 0, locals := 0 } (PB G cy [(aB, .inr (4, [.int (nI N), .ref aV, .ref aH, .ref aP, .ref aM])), (aV, .inl (cy 2, 5, .inl v)), (aH, .inl (cy 2, 5, .inl h)), (aP, .inl (cy 3, 5, .inl pl)), (aM, .inl (cy 3, 5, .inl me))]) [.ref aB, .int i] (some (.int (if inI i (nI N) = true then 1 else 0))) := by
  refine RO.ofW (cc := cX0_has) (maxL := 2) (ret := (some .boolean)) (by decide) rfl (Nat.le_of_ble_eq_true rfl) ?_
  intro p e s m below meth c S9 hr hlocks hPB ls hl
  obtain ⟨hx, hb, hml, hown, hts⟩ := id S9
  obtain ⟨hP, hK⟩ := hPB
  have hl : lv_has ls 2 [(0, .ref aB), (1, .int i)] := hl
  have hi4 : ∀ w ∈ wsX00, w ∈ wsX0_has := by decide +kernel
  have hf9 := hts (.fieldLink RX0 9 "BathLeague$Baths" "count" "I") (by decide +kernel)
  refine lv_iload_n hx hb dX0_has_0 rfl (lv_at hl 1 rfl) ?_
  refine lv_if_lt (tgt := 16) hx hb dX0_has_1 (by decide) (fun c_1 => ?_) (fun c_1 => ?_)
  · have c_1' : ¬ 0 ≤ i := Int32.not_le.mpr c_1
    refine lv_iconst (v := 0) hx hb dX0_has_16 (by decide) ?_
    exact ro_zret hx hb hr hlocks (by first | rfl | (split <;> rfl)) (by simp [inI, c_1', c_1]) dX0_has_17
  · have c_1' : 0 ≤ i := Int32.not_lt.mp c_1
    refine lv_iload_n hx hb dX0_has_4 rfl (lv_at hl 1 rfl) ?_
    refine lv_aload_n hx hb dX0_has_5 rfl (lv_at hl 0 rfl) ?_
    refine va_get (D := G) (ci := 4) (v := .int (nI N)) (C := RX0) (T := TX0) (N := 5) hx hb hts hi4 hown hK.1 hP 0 rfl rfl 0 (by decide) hf9 (fun _ h9 => h9) rfl dX0_has_6 ?_
    refine lv_icmp_ge (tgt := 16) hx hb dX0_has_9 (by decide) (fun c_2 => ?_) (fun c_2 => ?_)
    · have c_2' : ¬ i < (nI N) := Int32.not_lt.mpr c_2
      refine lv_iconst (v := 0) hx hb dX0_has_16 (by decide) ?_
      exact ro_zret hx hb hr hlocks (by first | rfl | (split <;> rfl)) (by simp [inI, c_1', c_1, c_2', c_2]) dX0_has_17
    · have c_2' : i < (nI N) := Int32.not_le.mp c_2
      refine lv_iconst (v := 1) hx hb dX0_has_12 (by decide) ?_
      refine lv_goto (tgt := 17) hx hb dX0_has_13 (by decide) ?_
      exact ro_zret hx hb hr hlocks (by first | rfl | (split <;> rfl)) (by simp [inI, c_1', c_1, c_2', c_2]) dX0_has_17

set_option maxRecDepth 100000 in
set_option maxHeartbeats 1000000 in
theorem c_X0_hasWater (l : Launch) (G : va_G) (cy : Nat → ClassId) (aB aV aH aP aM N : Nat) (v h pl me : Nat → Int32) (k : Nat) (hk : k < 5) : RO l yX0_hasWater wsX0_hasWater { frames := 0, cells := 0, slots := 0, locals := 0 } (PB G cy [(aB, .inr (4, [.int (nI N), .ref aV, .ref aH, .ref aP, .ref aM])), (aV, .inl (cy 2, 5, .inl v)), (aH, .inl (cy 2, 5, .inl h)), (aP, .inl (cy 3, 5, .inl pl)), (aM, .inl (cy 3, 5, .inl me))]) [.ref aB, .int (nI k)] (some (.int (if wet v k = true then 1 else 0))) := by
  refine RO.ofW (cc := cX0_hasWater) (maxL := 2) (ret := (some .boolean)) (by decide) rfl (Nat.le_of_ble_eq_true rfl) ?_
  intro p e s m below meth c S9 hr hlocks hPB ls hl
  obtain ⟨hx, hb, hml, hown, hts⟩ := id S9
  obtain ⟨hP, hK⟩ := hPB
  have hl : lv_has ls 2 [(0, .ref aB), (1, .int (nI k))] := hl
  have hi4 : ∀ w ∈ wsX00, w ∈ wsX0_hasWater := by decide +kernel
  have hf15 := hts (.fieldLink RX0 15 "BathLeague$Baths" "volume" "[I") (by decide +kernel)
  refine lv_aload_n hx hb dX0_hasWater_0 rfl (lv_at hl 0 rfl) ?_
  refine va_get (D := G) (ci := 4) (v := .ref aV) (C := RX0) (T := TX0) (N := 5) hx hb hts hi4 hown hK.1 hP 0 rfl rfl 1 (by decide) hf15 (fun _ h9 => h9) rfl dX0_hasWater_1 ?_
  refine lv_iload_n hx hb dX0_hasWater_4 rfl (lv_at hl 1 rfl) ?_
  refine m_iald hx hb hK hP 1 (k := k) rfl rfl (by omega) (Nat.le_of_ble_eq_true rfl) dX0_hasWater_5 ?_
  refine lv_if_le (tgt := 13) hx hb dX0_hasWater_6 (by decide) (fun c_1 => ?_) (fun c_1 => ?_)
  · have c_1' : ¬ 0 < (v k) := Int32.not_lt.mpr c_1
    refine lv_iconst (v := 0) hx hb dX0_hasWater_13 (by decide) ?_
    exact ro_zret hx hb hr hlocks (by first | rfl | (split <;> rfl)) (by simp [wet, c_1', c_1]) dX0_hasWater_14
  · have c_1' : 0 < (v k) := Int32.not_le.mp c_1
    refine lv_iconst (v := 1) hx hb dX0_hasWater_9 (by decide) ?_
    refine lv_goto (tgt := 14) hx hb dX0_hasWater_10 (by decide) ?_
    exact ro_zret hx hb hr hlocks (by first | rfl | (split <;> rfl)) (by simp [wet, c_1', c_1]) dX0_hasWater_14

set_option maxRecDepth 100000 in
set_option maxHeartbeats 1000000 in
theorem c_X0_degrees (l : Launch) (G : va_G) (cy : Nat → ClassId) (aB aV aH aP aM N : Nat) (v h pl me : Nat → Int32) (k : Nat) (hk : k < 5) : RO l yX0_degrees wsX0_degrees { frames := 1, cells := 0, slots := 0, locals := 21 } (PB G cy [(aB, .inr (4, [.int (nI N), .ref aV, .ref aH, .ref aP, .ref aM])), (aV, .inl (cy 2, 5, .inl v)), (aH, .inl (cy 2, 5, .inl h)), (aP, .inl (cy 3, 5, .inl pl)), (aM, .inl (cy 3, 5, .inl me))]) [.ref aB, .int (nI k)] (some (.int (rdeg (h k) (v k)))) := by
  refine RO.ofW (cc := cX0_degrees) (maxL := 2) (ret := (some .int)) (by decide) rfl (Nat.le_of_ble_eq_true rfl) ?_
  intro p e s m below meth c S9 hr hlocks hPB ls hl
  obtain ⟨hx, hb, hml, hown, hts⟩ := id S9
  obtain ⟨hP, hK⟩ := hPB
  have hl : lv_has ls 2 [(0, .ref aB), (1, .int (nI k))] := hl
  have hi4 : ∀ w ∈ wsX00, w ∈ wsX0_degrees := by decide +kernel
  have hf15 := hts (.fieldLink RX0 15 "BathLeague$Baths" "volume" "[I") (by decide +kernel)
  have hf19 := hts (.fieldLink RX0 19 "BathLeague$Baths" "heat" "[I") (by decide +kernel)
  refine lv_aload_n hx hb dX0_degrees_0 rfl (lv_at hl 0 rfl) ?_
  refine va_get (D := G) (ci := 4) (v := .ref aH) (C := RX0) (T := TX0) (N := 5) hx hb hts hi4 hown hK.1 hP 0 rfl rfl 2 (by decide) hf19 (fun _ h9 => h9) rfl dX0_degrees_1 ?_
  refine lv_iload_n hx hb dX0_degrees_4 rfl (lv_at hl 1 rfl) ?_
  refine m_iald hx hb hK hP 2 (k := k) rfl rfl (by omega) (Nat.le_of_ble_eq_true rfl) dX0_degrees_5 ?_
  refine lv_aload_n hx hb dX0_degrees_6 rfl (lv_at hl 0 rfl) ?_
  refine va_get (D := G) (ci := 4) (v := .ref aV) (C := RX0) (T := TX0) (N := 5) hx hb hts hi4 hown hK.1 hP 0 rfl rfl 1 (by decide) hf15 (fun _ h9 => h9) rfl dX0_degrees_7 ?_
  refine lv_iload_n hx hb dX0_degrees_10 rfl (lv_at hl 1 rfl) ?_
  refine m_iald hx hb hK hP 1 (k := k) rfl rfl (by omega) (Nat.le_of_ble_eq_true rfl) dX0_degrees_11 ?_
  refine c_roSNi S9 (c_X7_roundedDegrees l G cy (h k) (v k)) ⟨va_cnB 2 hts gX0_degrees_X7_roundedDegrees_n29 rfl rfl rfl (hK.nest 0 rfl) (hts (.initialized RX7) (by decide +kernel)) (by decide +kernel) ⟨Nat.le_of_ble_eq_true rfl, Nat.le_of_ble_eq_true rfl⟩, hts (.static yX7_roundedDegrees) (by decide +kernel), trivial⟩ PB.blind (PB.at hK (m_Ppart hP [] rfl)) rfl hl.1 rfl (Nat.le_of_ble_eq_true rfl) ⟨Nat.zero_le _, Nat.zero_le _⟩ dX0_degrees_12 ?_
  exact ro_iret hx hb hr hlocks rfl dX0_degrees_15

set_option maxRecDepth 100000 in
set_option maxHeartbeats 1000000 in
theorem c_X0_isHotter (l : Launch) (G : va_G) (cy : Nat → ClassId) (aB aV aH aP aM N : Nat) (v h pl me : Nat → Int32) (a b : Nat) (ha : a < 5) (hb2 : b < 5) : RO l yX0_isHotter wsX0_isHotter { frames := 0, cells := 0, slots := 0, locals := 0 } (PB G cy [(aB, .inr (4, [.int (nI N), .ref aV, .ref aH, .ref aP, .ref aM])), (aV, .inl (cy 2, 5, .inl v)), (aH, .inl (cy 2, 5, .inl h)), (aP, .inl (cy 3, 5, .inl pl)), (aM, .inl (cy 3, 5, .inl me))]) [.ref aB, .int (nI a), .int (nI b)] (some (.int (if hotter v h a b = true then 1 else 0))) := by
  refine RO.ofW (cc := cX0_isHotter) (maxL := 3) (ret := (some .boolean)) (by decide) rfl (Nat.le_of_ble_eq_true rfl) ?_
  intro p e s m below meth c S9 hr hlocks hPB ls hl
  obtain ⟨hx, hb, hml, hown, hts⟩ := id S9
  obtain ⟨hP, hK⟩ := hPB
  have hl : lv_has ls 3 [(0, .ref aB), (1, .int (nI a)), (2, .int (nI b))] := hl
  have hi4 : ∀ w ∈ wsX00, w ∈ wsX0_isHotter := by decide +kernel
  have hf15 := hts (.fieldLink RX0 15 "BathLeague$Baths" "volume" "[I") (by decide +kernel)
  have hf19 := hts (.fieldLink RX0 19 "BathLeague$Baths" "heat" "[I") (by decide +kernel)
  refine lv_aload_n hx hb dX0_isHotter_0 rfl (lv_at hl 0 rfl) ?_
  refine va_get (D := G) (ci := 4) (v := .ref aH) (C := RX0) (T := TX0) (N := 5) hx hb hts hi4 hown hK.1 hP 0 rfl rfl 2 (by decide) hf19 (fun _ h9 => h9) rfl dX0_isHotter_1 ?_
  refine lv_iload_n hx hb dX0_isHotter_4 rfl (lv_at hl 1 rfl) ?_
  refine m_iald hx hb hK hP 2 (k := a) rfl rfl (by omega) (Nat.le_of_ble_eq_true rfl) dX0_isHotter_5 ?_
  refine lv_aload_n hx hb dX0_isHotter_6 rfl (lv_at hl 0 rfl) ?_
  refine va_get (D := G) (ci := 4) (v := .ref aV) (C := RX0) (T := TX0) (N := 5) hx hb hts hi4 hown hK.1 hP 0 rfl rfl 1 (by decide) hf15 (fun _ h9 => h9) rfl dX0_isHotter_7 ?_
  refine lv_iload_n hx hb dX0_isHotter_10 rfl (lv_at hl 2 rfl) ?_
  refine m_iald hx hb hK hP 1 (k := b) rfl rfl (by omega) (Nat.le_of_ble_eq_true rfl) dX0_isHotter_11 ?_
  refine lv_imul hx hb dX0_isHotter_12 ?_
  refine lv_aload_n hx hb dX0_isHotter_13 rfl (lv_at hl 0 rfl) ?_
  refine va_get (D := G) (ci := 4) (v := .ref aH) (C := RX0) (T := TX0) (N := 5) hx hb hts hi4 hown hK.1 hP 0 rfl rfl 2 (by decide) hf19 (fun _ h9 => h9) rfl dX0_isHotter_14 ?_
  refine lv_iload_n hx hb dX0_isHotter_17 rfl (lv_at hl 2 rfl) ?_
  refine m_iald hx hb hK hP 2 (k := b) rfl rfl (by omega) (Nat.le_of_ble_eq_true rfl) dX0_isHotter_18 ?_
  refine lv_aload_n hx hb dX0_isHotter_19 rfl (lv_at hl 0 rfl) ?_
  refine va_get (D := G) (ci := 4) (v := .ref aV) (C := RX0) (T := TX0) (N := 5) hx hb hts hi4 hown hK.1 hP 0 rfl rfl 1 (by decide) hf15 (fun _ h9 => h9) rfl dX0_isHotter_20 ?_
  refine lv_iload_n hx hb dX0_isHotter_23 rfl (lv_at hl 1 rfl) ?_
  refine m_iald hx hb hK hP 1 (k := a) rfl rfl (by omega) (Nat.le_of_ble_eq_true rfl) dX0_isHotter_24 ?_
  refine lv_imul hx hb dX0_isHotter_25 ?_
  refine lv_icmp_le (tgt := 33) hx hb dX0_isHotter_26 (by decide) (fun c_1 => ?_) (fun c_1 => ?_)
  · have c_1' : ¬ ((h b) * (v a)) < ((h a) * (v b)) := Int32.not_lt.mpr c_1
    refine lv_iconst (v := 0) hx hb dX0_isHotter_33 (by decide) ?_
    exact ro_zret hx hb hr hlocks (by first | rfl | (split <;> rfl)) (by simp [hotter, c_1', c_1]) dX0_isHotter_34
  · have c_1' : ((h b) * (v a)) < ((h a) * (v b)) := Int32.not_le.mp c_1
    refine lv_iconst (v := 1) hx hb dX0_isHotter_29 (by decide) ?_
    refine lv_goto (tgt := 34) hx hb dX0_isHotter_30 (by decide) ?_
    exact ro_zret hx hb hr hlocks (by first | rfl | (split <;> rfl)) (by simp [hotter, c_1', c_1]) dX0_isHotter_34

set_option maxRecDepth 100000 in
set_option maxHeartbeats 1000000 in
theorem c_X0_heatOf (l : Launch) (G : va_G) (cy : Nat → ClassId) (aB aV aH aP aM N : Nat) (v h pl me : Nat → Int32) (k : Nat) (q : Int32) (hk : k < 5) : RO l yX0_heatOf wsX0_heatOf { frames := 1, cells := 0, slots := 0, locals := 21 } (PB G cy [(aB, .inr (4, [.int (nI N), .ref aV, .ref aH, .ref aP, .ref aM])), (aV, .inl (cy 2, 5, .inl v)), (aH, .inl (cy 2, 5, .inl h)), (aP, .inl (cy 3, 5, .inl pl)), (aM, .inl (cy 3, 5, .inl me))]) [.ref aB, .int (nI k), .int q] (some (.int (heatOf v h k q))) := by
  refine RO.ofW (cc := cX0_heatOf) (maxL := 3) (ret := (some .int)) (by decide) rfl (Nat.le_of_ble_eq_true rfl) ?_
  intro p e s m below meth c S9 hr hlocks hPB ls hl
  obtain ⟨hx, hb, hml, hown, hts⟩ := id S9
  obtain ⟨hP, hK⟩ := hPB
  have hl : lv_has ls 3 [(0, .ref aB), (1, .int (nI k)), (2, .int q)] := hl
  have hi4 : ∀ w ∈ wsX00, w ∈ wsX0_heatOf := by decide +kernel
  have hf15 := hts (.fieldLink RX0 15 "BathLeague$Baths" "volume" "[I") (by decide +kernel)
  have hf19 := hts (.fieldLink RX0 19 "BathLeague$Baths" "heat" "[I") (by decide +kernel)
  refine lv_aload_n hx hb dX0_heatOf_0 rfl (lv_at hl 0 rfl) ?_
  refine lv_iload_n hx hb dX0_heatOf_1 rfl (lv_at hl 1 rfl) ?_
  refine c_roVi S9 (c_X0_hasWater l G cy aB aV aH aP aM N v h pl me k (by omega)) (cwV 1 hts gX0_heatOf_X0_hasWater rfl rfl rfl (by decide +kernel) ⟨Nat.le_of_ble_eq_true rfl, Nat.le_of_ble_eq_true rfl⟩) PB.blind (va_recv hK.1 hP (ci := 4) (q0 := 0) rfl rfl) (PB.at hK (m_Ppart hP [0, 1, 2, 3, 4] rfl)) rfl hl.1 rfl (Nat.le_of_ble_eq_true rfl) ⟨Nat.zero_le _, Nat.zero_le _⟩ dX0_heatOf_2 ?_
  refine lv_if_eq (tgt := 26) hx hb dX0_heatOf_5 (by decide) (fun c_1 => ?_) (fun c_1 => ?_)
  · have b_2 : ¬ (wet v k = true) := m_ite0.mp c_1
    refine lv_iconst (v := 0) hx hb dX0_heatOf_26 (by decide) ?_
    exact ro_iret hx hb hr hlocks (by simp [heatOf, b_2]) dX0_heatOf_27
  · have b_3 : wet v k = true := m_ite1.mp c_1
    refine lv_aload_n hx hb dX0_heatOf_8 rfl (lv_at hl 0 rfl) ?_
    refine va_get (D := G) (ci := 4) (v := .ref aH) (C := RX0) (T := TX0) (N := 5) hx hb hts hi4 hown hK.1 hP 0 rfl rfl 2 (by decide) hf19 (fun _ h9 => h9) rfl dX0_heatOf_9 ?_
    refine lv_iload_n hx hb dX0_heatOf_12 rfl (lv_at hl 1 rfl) ?_
    refine m_iald hx hb hK hP 2 (k := k) rfl rfl (by omega) (Nat.le_of_ble_eq_true rfl) dX0_heatOf_13 ?_
    refine lv_iload_n hx hb dX0_heatOf_14 rfl (lv_at hl 2 rfl) ?_
    refine lv_imul hx hb dX0_heatOf_15 ?_
    refine lv_aload_n hx hb dX0_heatOf_16 rfl (lv_at hl 0 rfl) ?_
    refine va_get (D := G) (ci := 4) (v := .ref aV) (C := RX0) (T := TX0) (N := 5) hx hb hts hi4 hown hK.1 hP 0 rfl rfl 1 (by decide) hf15 (fun _ h9 => h9) rfl dX0_heatOf_17 ?_
    refine lv_iload_n hx hb dX0_heatOf_20 rfl (lv_at hl 1 rfl) ?_
    refine m_iald hx hb hK hP 1 (k := k) rfl rfl (by omega) (Nat.le_of_ble_eq_true rfl) dX0_heatOf_21 ?_
    refine lv_idiv hx hb dX0_heatOf_22 (m_nz (m_wet b_3)) ?_
    refine lv_goto (tgt := 27) hx hb dX0_heatOf_23 (by decide) ?_
    exact ro_iret hx hb hr hlocks (by simp [heatOf, b_3]) dX0_heatOf_27

set_option maxRecDepth 100000 in
set_option maxHeartbeats 1000000 in
theorem c_X0_members (l : Launch) (G : va_G) (cy : Nat → ClassId) (aB aV aH aP aM N : Nat) (v h pl me : Nat → Int32) (hN : N ≤ 5) : RO l yX0_members wsX0_members { frames := 0, cells := 0, slots := 0, locals := 0 } (PB G cy [(aB, .inr (4, [.int (nI N), .ref aV, .ref aH, .ref aP, .ref aM])), (aV, .inl (cy 2, 5, .inl v)), (aH, .inl (cy 2, 5, .inl h)), (aP, .inl (cy 3, 5, .inl pl)), (aM, .inl (cy 3, 5, .inl me))]) [.ref aB] (some (.int (cntM me N))) := by
  refine RO.ofW (cc := cX0_members) (maxL := 3) (ret := (some .int)) (by decide) rfl (Nat.le_of_ble_eq_true rfl) ?_
  intro p e s m below meth c S9 hr hlocks hPB ls hl
  obtain ⟨hx, hb, hml, hown, hts⟩ := id S9
  obtain ⟨hP, hK⟩ := hPB
  have hl : lv_has ls 3 [(0, .ref aB)] := hl
  have hi4 : ∀ w ∈ wsX00, w ∈ wsX0_members := by decide +kernel
  have hf9 := hts (.fieldLink RX0 9 "BathLeague$Baths" "count" "I") (by decide +kernel)
  have hf26 := hts (.fieldLink RX0 26 "BathLeague$Baths" "member" "[Z") (by decide +kernel)
  refine lv_iconst (v := 0) hx hb dX0_members_0 (by decide) ?_
  refine lv_istore_n (lv' := [(1, .int 0), (0, .ref aB)]) hx hb dX0_members_1 rfl hl (by decide) rfl (fun ls hl => ?_)
  refine lv_iconst (v := 0) hx hb dX0_members_2 (by decide) ?_
  refine lv_istore_n (lv' := [(2, .int 0), (1, .int 0), (0, .ref aB)]) hx hb dX0_members_3 rfl hl (by decide) rfl (fun ls hl => ?_)
  have L_1 : ∀ (d k : Nat), k + d = N → ∀ ls : Array Slot, lv_has ls 3 [(0, .ref aB), (1, .int (cntM me k)), (2, .int (nI k))] → W p l e ({ frames := 0, cells := 0, slots := 0, locals := 0 } : Room) s m ([.ref aB] : List Value).toArray below meth c s.heap [] 0 0 (roZ below ([.ref aB] : List Value).toArray s (some (.int (cntM me N)))) (F0 m 4 ls []) := by
    intro d
    induction d with
    | zero =>
      intro k hkk ls hl
      refine lv_iload_n hx hb dX0_members_4 rfl (lv_at hl 2 rfl) ?_
      refine lv_aload_n hx hb dX0_members_5 rfl (lv_at hl 0 rfl) ?_
      refine va_get (D := G) (ci := 4) (v := .int (nI N)) (C := RX0) (T := TX0) (N := 5) hx hb hts hi4 hown hK.1 hP 0 rfl rfl 0 (by decide) hf9 (fun _ h9 => h9) rfl dX0_members_6 ?_
      refine lv_icmp_ge (tgt := 30) hx hb dX0_members_9 (by decide) (fun c_2 => ?_) (fun c_2 => ?_)
      · have k_3 : N ≤ k := (m_leN (a := N) (b := k) rfl rfl (by omega) (by omega)).mp c_2
        have k_3' : ¬ (k < N) := by omega
        refine lv_iload_n hx hb dX0_members_30 rfl (lv_at hl 1 rfl) ?_
        exact ro_iret hx hb hr hlocks (by rw [show k = N by omega]) dX0_members_31
      · have k_4 : ¬ (N ≤ k) := fun z => c_2 ((m_leN (a := N) (b := k) rfl rfl (by omega) (by omega)).mpr z)
        have k_4' : k < N := by omega
        exfalso; omega
    | succ d ih =>
      intro k hkk ls hl
      refine lv_iload_n hx hb dX0_members_4 rfl (lv_at hl 2 rfl) ?_
      refine lv_aload_n hx hb dX0_members_5 rfl (lv_at hl 0 rfl) ?_
      refine va_get (D := G) (ci := 4) (v := .int (nI N)) (C := RX0) (T := TX0) (N := 5) hx hb hts hi4 hown hK.1 hP 0 rfl rfl 0 (by decide) hf9 (fun _ h9 => h9) rfl dX0_members_6 ?_
      refine lv_icmp_ge (tgt := 30) hx hb dX0_members_9 (by decide) (fun c_5 => ?_) (fun c_5 => ?_)
      · have k_6 : N ≤ k := (m_leN (a := N) (b := k) rfl rfl (by omega) (by omega)).mp c_5
        have k_6' : ¬ (k < N) := by omega
        exfalso; omega
      · have k_7 : ¬ (N ≤ k) := fun z => c_5 ((m_leN (a := N) (b := k) rfl rfl (by omega) (by omega)).mpr z)
        have k_7' : k < N := by omega
        refine lv_aload_n hx hb dX0_members_12 rfl (lv_at hl 0 rfl) ?_
        refine va_get (D := G) (ci := 4) (v := .ref aM) (C := RX0) (T := TX0) (N := 5) hx hb hts hi4 hown hK.1 hP 0 rfl rfl 4 (by decide) hf26 (fun _ h9 => h9) rfl dX0_members_13 ?_
        refine lv_iload_n hx hb dX0_members_16 rfl (lv_at hl 2 rfl) ?_
        refine m_zald hx hb hK hP 4 (k := k) rfl rfl (by omega) (Nat.le_of_ble_eq_true rfl) dX0_members_17 ?_
        refine lv_if_eq (tgt := 24) hx hb dX0_members_18 (by decide) (fun c_8 => ?_) (fun c_8 => ?_)
        · refine lv_iinc (v := nI (k + 1)) (lv' := [(2, .int (nI (k + 1))), (0, .ref aB), (1, .int (cntM me k))]) hx hb dX0_members_24 hl (k := 2) rfl (m_inc _) (by decide) rfl (fun ls hl => ?_)
          refine lv_goto (tgt := 4) hx hb dX0_members_27 (by decide) ?_
          have e_9 : cntM me (k + 1) = cntM me k := (by simp [cntM, c_5, c_8])
          exact ih (k + 1) (by omega) ls (by rw [e_9]; exact lv_sub hl [1, 2, 0] rfl)
        · refine lv_iinc (v := (cntM me k) + 1) (lv' := [(1, .int ((cntM me k) + 1)), (0, .ref aB), (2, .int (nI k))]) hx hb dX0_members_21 hl (k := 1) rfl rfl (by decide) rfl (fun ls hl => ?_)
          refine lv_iinc (v := nI (k + 1)) (lv' := [(2, .int (nI (k + 1))), (1, .int ((cntM me k) + 1)), (0, .ref aB)]) hx hb dX0_members_24 hl (k := 2) rfl (m_inc _) (by decide) rfl (fun ls hl => ?_)
          refine lv_goto (tgt := 4) hx hb dX0_members_27 (by decide) ?_
          have e_10 : cntM me (k + 1) = (cntM me k) + 1 := (by simp [cntM, c_5, c_8])
          exact ih (k + 1) (by omega) ls (by rw [e_10]; exact lv_sub hl [2, 1, 0] rfl)
  exact L_1 N 0 (by omega) ls (lv_sub hl [2, 1, 0] rfl)

set_option maxRecDepth 100000 in
set_option maxHeartbeats 1000000 in
theorem c_X0_membersWithWater (l : Launch) (G : va_G) (cy : Nat → ClassId) (aB aV aH aP aM N : Nat) (v h pl me : Nat → Int32) (hN : N ≤ 5) : RO l yX0_membersWithWater wsX0_membersWithWater { frames := 1, cells := 0, slots := 0, locals := 21 } (PB G cy [(aB, .inr (4, [.int (nI N), .ref aV, .ref aH, .ref aP, .ref aM])), (aV, .inl (cy 2, 5, .inl v)), (aH, .inl (cy 2, 5, .inl h)), (aP, .inl (cy 3, 5, .inl pl)), (aM, .inl (cy 3, 5, .inl me))]) [.ref aB] (some (.int (cntW v me N))) := by
  refine RO.ofW (cc := cX0_membersWithWater) (maxL := 3) (ret := (some .int)) (by decide) rfl (Nat.le_of_ble_eq_true rfl) ?_
  intro p e s m below meth c S9 hr hlocks hPB ls hl
  obtain ⟨hx, hb, hml, hown, hts⟩ := id S9
  obtain ⟨hP, hK⟩ := hPB
  have hl : lv_has ls 3 [(0, .ref aB)] := hl
  have hi4 : ∀ w ∈ wsX00, w ∈ wsX0_membersWithWater := by decide +kernel
  have hf9 := hts (.fieldLink RX0 9 "BathLeague$Baths" "count" "I") (by decide +kernel)
  have hf26 := hts (.fieldLink RX0 26 "BathLeague$Baths" "member" "[Z") (by decide +kernel)
  refine lv_iconst (v := 0) hx hb dX0_membersWithWater_0 (by decide) ?_
  refine lv_istore_n (lv' := [(1, .int 0), (0, .ref aB)]) hx hb dX0_membersWithWater_1 rfl hl (by decide) rfl (fun ls hl => ?_)
  refine lv_iconst (v := 0) hx hb dX0_membersWithWater_2 (by decide) ?_
  refine lv_istore_n (lv' := [(2, .int 0), (1, .int 0), (0, .ref aB)]) hx hb dX0_membersWithWater_3 rfl hl (by decide) rfl (fun ls hl => ?_)
  have L_1 : ∀ (d k : Nat), k + d = N → ∀ ls : Array Slot, lv_has ls 3 [(0, .ref aB), (1, .int (cntW v me k)), (2, .int (nI k))] → W p l e ({ frames := 1, cells := 0, slots := 0, locals := 21 } : Room) s m ([.ref aB] : List Value).toArray below meth c s.heap [] 0 0 (roZ below ([.ref aB] : List Value).toArray s (some (.int (cntW v me N)))) (F0 m 4 ls []) := by
    intro d
    induction d with
    | zero =>
      intro k hkk ls hl
      refine lv_iload_n hx hb dX0_membersWithWater_4 rfl (lv_at hl 2 rfl) ?_
      refine lv_aload_n hx hb dX0_membersWithWater_5 rfl (lv_at hl 0 rfl) ?_
      refine va_get (D := G) (ci := 4) (v := .int (nI N)) (C := RX0) (T := TX0) (N := 5) hx hb hts hi4 hown hK.1 hP 0 rfl rfl 0 (by decide) hf9 (fun _ h9 => h9) rfl dX0_membersWithWater_6 ?_
      refine lv_icmp_ge (tgt := 38) hx hb dX0_membersWithWater_9 (by decide) (fun c_2 => ?_) (fun c_2 => ?_)
      · have k_3 : N ≤ k := (m_leN (a := N) (b := k) rfl rfl (by omega) (by omega)).mp c_2
        have k_3' : ¬ (k < N) := by omega
        refine lv_iload_n hx hb dX0_membersWithWater_38 rfl (lv_at hl 1 rfl) ?_
        exact ro_iret hx hb hr hlocks (by rw [show k = N by omega]) dX0_membersWithWater_39
      · have k_4 : ¬ (N ≤ k) := fun z => c_2 ((m_leN (a := N) (b := k) rfl rfl (by omega) (by omega)).mpr z)
        have k_4' : k < N := by omega
        exfalso; omega
    | succ d ih =>
      intro k hkk ls hl
      refine lv_iload_n hx hb dX0_membersWithWater_4 rfl (lv_at hl 2 rfl) ?_
      refine lv_aload_n hx hb dX0_membersWithWater_5 rfl (lv_at hl 0 rfl) ?_
      refine va_get (D := G) (ci := 4) (v := .int (nI N)) (C := RX0) (T := TX0) (N := 5) hx hb hts hi4 hown hK.1 hP 0 rfl rfl 0 (by decide) hf9 (fun _ h9 => h9) rfl dX0_membersWithWater_6 ?_
      refine lv_icmp_ge (tgt := 38) hx hb dX0_membersWithWater_9 (by decide) (fun c_5 => ?_) (fun c_5 => ?_)
      · have k_6 : N ≤ k := (m_leN (a := N) (b := k) rfl rfl (by omega) (by omega)).mp c_5
        have k_6' : ¬ (k < N) := by omega
        exfalso; omega
      · have k_7 : ¬ (N ≤ k) := fun z => c_5 ((m_leN (a := N) (b := k) rfl rfl (by omega) (by omega)).mpr z)
        have k_7' : k < N := by omega
        refine lv_aload_n hx hb dX0_membersWithWater_12 rfl (lv_at hl 0 rfl) ?_
        refine va_get (D := G) (ci := 4) (v := .ref aM) (C := RX0) (T := TX0) (N := 5) hx hb hts hi4 hown hK.1 hP 0 rfl rfl 4 (by decide) hf26 (fun _ h9 => h9) rfl dX0_membersWithWater_13 ?_
        refine lv_iload_n hx hb dX0_membersWithWater_16 rfl (lv_at hl 2 rfl) ?_
        refine m_zald hx hb hK hP 4 (k := k) rfl rfl (by omega) (Nat.le_of_ble_eq_true rfl) dX0_membersWithWater_17 ?_
        refine lv_if_eq (tgt := 32) hx hb dX0_membersWithWater_18 (by decide) (fun c_8 => ?_) (fun c_8 => ?_)
        · refine lv_iinc (v := nI (k + 1)) (lv' := [(2, .int (nI (k + 1))), (0, .ref aB), (1, .int (cntW v me k))]) hx hb dX0_membersWithWater_32 hl (k := 2) rfl (m_inc _) (by decide) rfl (fun ls hl => ?_)
          refine lv_goto (tgt := 4) hx hb dX0_membersWithWater_35 (by decide) ?_
          have e_9 : cntW v me (k + 1) = cntW v me k := (by simp [cntW, c_5, c_8])
          exact ih (k + 1) (by omega) ls (by rw [e_9]; exact lv_sub hl [1, 2, 0] rfl)
        · refine lv_aload_n hx hb dX0_membersWithWater_21 rfl (lv_at hl 0 rfl) ?_
          refine lv_iload_n hx hb dX0_membersWithWater_22 rfl (lv_at hl 2 rfl) ?_
          refine c_roVi S9 (c_X0_hasWater l G cy aB aV aH aP aM N v h pl me k (by omega)) (cwV 1 hts gX0_membersWithWater_X0_hasWater rfl rfl rfl (by decide +kernel) ⟨Nat.le_of_ble_eq_true rfl, Nat.le_of_ble_eq_true rfl⟩) PB.blind (va_recv hK.1 hP (ci := 4) (q0 := 0) rfl rfl) (PB.at hK (m_Ppart hP [0, 1, 2, 3, 4] rfl)) rfl hl.1 rfl (Nat.le_of_ble_eq_true rfl) ⟨Nat.zero_le _, Nat.zero_le _⟩ dX0_membersWithWater_23 ?_
          refine lv_if_eq (tgt := 32) hx hb dX0_membersWithWater_26 (by decide) (fun c_10 => ?_) (fun c_10 => ?_)
          · have b_11 : ¬ (wet v k = true) := m_ite0.mp c_10
            refine lv_iinc (v := nI (k + 1)) (lv' := [(2, .int (nI (k + 1))), (0, .ref aB), (1, .int (cntW v me k))]) hx hb dX0_membersWithWater_32 hl (k := 2) rfl (m_inc _) (by decide) rfl (fun ls hl => ?_)
            refine lv_goto (tgt := 4) hx hb dX0_membersWithWater_35 (by decide) ?_
            have e_12 : cntW v me (k + 1) = cntW v me k := (by simp [cntW, c_5, c_8, b_11])
            exact ih (k + 1) (by omega) ls (by rw [e_12]; exact lv_sub hl [1, 2, 0] rfl)
          · have b_13 : wet v k = true := m_ite1.mp c_10
            refine lv_iinc (v := (cntW v me k) + 1) (lv' := [(1, .int ((cntW v me k) + 1)), (0, .ref aB), (2, .int (nI k))]) hx hb dX0_membersWithWater_29 hl (k := 1) rfl rfl (by decide) rfl (fun ls hl => ?_)
            refine lv_iinc (v := nI (k + 1)) (lv' := [(2, .int (nI (k + 1))), (1, .int ((cntW v me k) + 1)), (0, .ref aB)]) hx hb dX0_membersWithWater_32 hl (k := 2) rfl (m_inc _) (by decide) rfl (fun ls hl => ?_)
            refine lv_goto (tgt := 4) hx hb dX0_membersWithWater_35 (by decide) ?_
            have e_14 : cntW v me (k + 1) = (cntW v me k) + 1 := (by simp [cntW, c_5, c_8, b_13])
            exact ih (k + 1) (by omega) ls (by rw [e_14]; exact lv_sub hl [2, 1, 0] rfl)
  exact L_1 N 0 (by omega) ls (lv_sub hl [2, 1, 0] rfl)

set_option maxRecDepth 100000 in
set_option maxHeartbeats 1000000 in
theorem c_X0_heatOfMembers (l : Launch) (G : va_G) (cy : Nat → ClassId) (aB aV aH aP aM N : Nat) (v h pl me : Nat → Int32) (hN : N ≤ 5) : RO l yX0_heatOfMembers wsX0_heatOfMembers { frames := 0, cells := 0, slots := 0, locals := 0 } (PB G cy [(aB, .inr (4, [.int (nI N), .ref aV, .ref aH, .ref aP, .ref aM])), (aV, .inl (cy 2, 5, .inl v)), (aH, .inl (cy 2, 5, .inl h)), (aP, .inl (cy 3, 5, .inl pl)), (aM, .inl (cy 3, 5, .inl me))]) [.ref aB] (some (.int (sumM h me N))) := by
  refine RO.ofW (cc := cX0_heatOfMembers) (maxL := 3) (ret := (some .int)) (by decide) rfl (Nat.le_of_ble_eq_true rfl) ?_
  intro p e s m below meth c S9 hr hlocks hPB ls hl
  obtain ⟨hx, hb, hml, hown, hts⟩ := id S9
  obtain ⟨hP, hK⟩ := hPB
  have hl : lv_has ls 3 [(0, .ref aB)] := hl
  have hi4 : ∀ w ∈ wsX00, w ∈ wsX0_heatOfMembers := by decide +kernel
  have hf9 := hts (.fieldLink RX0 9 "BathLeague$Baths" "count" "I") (by decide +kernel)
  have hf19 := hts (.fieldLink RX0 19 "BathLeague$Baths" "heat" "[I") (by decide +kernel)
  have hf26 := hts (.fieldLink RX0 26 "BathLeague$Baths" "member" "[Z") (by decide +kernel)
  refine lv_iconst (v := 0) hx hb dX0_heatOfMembers_0 (by decide) ?_
  refine lv_istore_n (lv' := [(1, .int 0), (0, .ref aB)]) hx hb dX0_heatOfMembers_1 rfl hl (by decide) rfl (fun ls hl => ?_)
  refine lv_iconst (v := 0) hx hb dX0_heatOfMembers_2 (by decide) ?_
  refine lv_istore_n (lv' := [(2, .int 0), (1, .int 0), (0, .ref aB)]) hx hb dX0_heatOfMembers_3 rfl hl (by decide) rfl (fun ls hl => ?_)
  have L_1 : ∀ (d k : Nat), k + d = N → ∀ ls : Array Slot, lv_has ls 3 [(0, .ref aB), (1, .int (sumM h me k)), (2, .int (nI k))] → W p l e ({ frames := 0, cells := 0, slots := 0, locals := 0 } : Room) s m ([.ref aB] : List Value).toArray below meth c s.heap [] 0 0 (roZ below ([.ref aB] : List Value).toArray s (some (.int (sumM h me N)))) (F0 m 4 ls []) := by
    intro d
    induction d with
    | zero =>
      intro k hkk ls hl
      refine lv_iload_n hx hb dX0_heatOfMembers_4 rfl (lv_at hl 2 rfl) ?_
      refine lv_aload_n hx hb dX0_heatOfMembers_5 rfl (lv_at hl 0 rfl) ?_
      refine va_get (D := G) (ci := 4) (v := .int (nI N)) (C := RX0) (T := TX0) (N := 5) hx hb hts hi4 hown hK.1 hP 0 rfl rfl 0 (by decide) hf9 (fun _ h9 => h9) rfl dX0_heatOfMembers_6 ?_
      refine lv_icmp_ge (tgt := 36) hx hb dX0_heatOfMembers_9 (by decide) (fun c_2 => ?_) (fun c_2 => ?_)
      · have k_3 : N ≤ k := (m_leN (a := N) (b := k) rfl rfl (by omega) (by omega)).mp c_2
        have k_3' : ¬ (k < N) := by omega
        refine lv_iload_n hx hb dX0_heatOfMembers_36 rfl (lv_at hl 1 rfl) ?_
        exact ro_iret hx hb hr hlocks (by rw [show k = N by omega]) dX0_heatOfMembers_37
      · have k_4 : ¬ (N ≤ k) := fun z => c_2 ((m_leN (a := N) (b := k) rfl rfl (by omega) (by omega)).mpr z)
        have k_4' : k < N := by omega
        exfalso; omega
    | succ d ih =>
      intro k hkk ls hl
      refine lv_iload_n hx hb dX0_heatOfMembers_4 rfl (lv_at hl 2 rfl) ?_
      refine lv_aload_n hx hb dX0_heatOfMembers_5 rfl (lv_at hl 0 rfl) ?_
      refine va_get (D := G) (ci := 4) (v := .int (nI N)) (C := RX0) (T := TX0) (N := 5) hx hb hts hi4 hown hK.1 hP 0 rfl rfl 0 (by decide) hf9 (fun _ h9 => h9) rfl dX0_heatOfMembers_6 ?_
      refine lv_icmp_ge (tgt := 36) hx hb dX0_heatOfMembers_9 (by decide) (fun c_5 => ?_) (fun c_5 => ?_)
      · have k_6 : N ≤ k := (m_leN (a := N) (b := k) rfl rfl (by omega) (by omega)).mp c_5
        have k_6' : ¬ (k < N) := by omega
        exfalso; omega
      · have k_7 : ¬ (N ≤ k) := fun z => c_5 ((m_leN (a := N) (b := k) rfl rfl (by omega) (by omega)).mpr z)
        have k_7' : k < N := by omega
        refine lv_aload_n hx hb dX0_heatOfMembers_12 rfl (lv_at hl 0 rfl) ?_
        refine va_get (D := G) (ci := 4) (v := .ref aM) (C := RX0) (T := TX0) (N := 5) hx hb hts hi4 hown hK.1 hP 0 rfl rfl 4 (by decide) hf26 (fun _ h9 => h9) rfl dX0_heatOfMembers_13 ?_
        refine lv_iload_n hx hb dX0_heatOfMembers_16 rfl (lv_at hl 2 rfl) ?_
        refine m_zald hx hb hK hP 4 (k := k) rfl rfl (by omega) (Nat.le_of_ble_eq_true rfl) dX0_heatOfMembers_17 ?_
        refine lv_if_eq (tgt := 30) hx hb dX0_heatOfMembers_18 (by decide) (fun c_8 => ?_) (fun c_8 => ?_)
        · refine lv_iinc (v := nI (k + 1)) (lv' := [(2, .int (nI (k + 1))), (0, .ref aB), (1, .int (sumM h me k))]) hx hb dX0_heatOfMembers_30 hl (k := 2) rfl (m_inc _) (by decide) rfl (fun ls hl => ?_)
          refine lv_goto (tgt := 4) hx hb dX0_heatOfMembers_33 (by decide) ?_
          have e_9 : sumM h me (k + 1) = sumM h me k := (by simp [sumM, c_5, c_8])
          exact ih (k + 1) (by omega) ls (by rw [e_9]; exact lv_sub hl [1, 2, 0] rfl)
        · refine lv_iload_n hx hb dX0_heatOfMembers_21 rfl (lv_at hl 1 rfl) ?_
          refine lv_aload_n hx hb dX0_heatOfMembers_22 rfl (lv_at hl 0 rfl) ?_
          refine va_get (D := G) (ci := 4) (v := .ref aH) (C := RX0) (T := TX0) (N := 5) hx hb hts hi4 hown hK.1 hP 0 rfl rfl 2 (by decide) hf19 (fun _ h9 => h9) rfl dX0_heatOfMembers_23 ?_
          refine lv_iload_n hx hb dX0_heatOfMembers_26 rfl (lv_at hl 2 rfl) ?_
          refine m_iald hx hb hK hP 2 (k := k) rfl rfl (by omega) (Nat.le_of_ble_eq_true rfl) dX0_heatOfMembers_27 ?_
          refine lv_iadd hx hb dX0_heatOfMembers_28 ?_
          refine lv_istore_n (lv' := [(1, .int ((sumM h me k) + (h k))), (0, .ref aB), (2, .int (nI k))]) hx hb dX0_heatOfMembers_29 rfl hl (by decide) rfl (fun ls hl => ?_)
          refine lv_iinc (v := nI (k + 1)) (lv' := [(2, .int (nI (k + 1))), (1, .int ((sumM h me k) + (h k))), (0, .ref aB)]) hx hb dX0_heatOfMembers_30 hl (k := 2) rfl (m_inc _) (by decide) rfl (fun ls hl => ?_)
          refine lv_goto (tgt := 4) hx hb dX0_heatOfMembers_33 (by decide) ?_
          have e_10 : sumM h me (k + 1) = (sumM h me k) + (h k) := (by simp [sumM, c_5, c_8])
          exact ih (k + 1) (by omega) ls (by rw [e_10]; exact lv_sub hl [2, 1, 0] rfl)
  exact L_1 N 0 (by omega) ls (lv_sub hl [2, 1, 0] rfl)

set_option maxRecDepth 100000 in
set_option maxHeartbeats 1000000 in
theorem c_X0_heatOfOthers (l : Launch) (G : va_G) (cy : Nat → ClassId) (aB aV aH aP aM N : Nat) (v h pl me : Nat → Int32) (hN : N ≤ 5) : RO l yX0_heatOfOthers wsX0_heatOfOthers { frames := 0, cells := 0, slots := 0, locals := 0 } (PB G cy [(aB, .inr (4, [.int (nI N), .ref aV, .ref aH, .ref aP, .ref aM])), (aV, .inl (cy 2, 5, .inl v)), (aH, .inl (cy 2, 5, .inl h)), (aP, .inl (cy 3, 5, .inl pl)), (aM, .inl (cy 3, 5, .inl me))]) [.ref aB] (some (.int (sumO h me N))) := by
  refine RO.ofW (cc := cX0_heatOfOthers) (maxL := 3) (ret := (some .int)) (by decide) rfl (Nat.le_of_ble_eq_true rfl) ?_
  intro p e s m below meth c S9 hr hlocks hPB ls hl
  obtain ⟨hx, hb, hml, hown, hts⟩ := id S9
  obtain ⟨hP, hK⟩ := hPB
  have hl : lv_has ls 3 [(0, .ref aB)] := hl
  have hi4 : ∀ w ∈ wsX00, w ∈ wsX0_heatOfOthers := by decide +kernel
  have hf9 := hts (.fieldLink RX0 9 "BathLeague$Baths" "count" "I") (by decide +kernel)
  have hf19 := hts (.fieldLink RX0 19 "BathLeague$Baths" "heat" "[I") (by decide +kernel)
  have hf26 := hts (.fieldLink RX0 26 "BathLeague$Baths" "member" "[Z") (by decide +kernel)
  refine lv_iconst (v := 0) hx hb dX0_heatOfOthers_0 (by decide) ?_
  refine lv_istore_n (lv' := [(1, .int 0), (0, .ref aB)]) hx hb dX0_heatOfOthers_1 rfl hl (by decide) rfl (fun ls hl => ?_)
  refine lv_iconst (v := 0) hx hb dX0_heatOfOthers_2 (by decide) ?_
  refine lv_istore_n (lv' := [(2, .int 0), (1, .int 0), (0, .ref aB)]) hx hb dX0_heatOfOthers_3 rfl hl (by decide) rfl (fun ls hl => ?_)
  have L_1 : ∀ (d k : Nat), k + d = N → ∀ ls : Array Slot, lv_has ls 3 [(0, .ref aB), (1, .int (sumO h me k)), (2, .int (nI k))] → W p l e ({ frames := 0, cells := 0, slots := 0, locals := 0 } : Room) s m ([.ref aB] : List Value).toArray below meth c s.heap [] 0 0 (roZ below ([.ref aB] : List Value).toArray s (some (.int (sumO h me N)))) (F0 m 4 ls []) := by
    intro d
    induction d with
    | zero =>
      intro k hkk ls hl
      refine lv_iload_n hx hb dX0_heatOfOthers_4 rfl (lv_at hl 2 rfl) ?_
      refine lv_aload_n hx hb dX0_heatOfOthers_5 rfl (lv_at hl 0 rfl) ?_
      refine va_get (D := G) (ci := 4) (v := .int (nI N)) (C := RX0) (T := TX0) (N := 5) hx hb hts hi4 hown hK.1 hP 0 rfl rfl 0 (by decide) hf9 (fun _ h9 => h9) rfl dX0_heatOfOthers_6 ?_
      refine lv_icmp_ge (tgt := 36) hx hb dX0_heatOfOthers_9 (by decide) (fun c_2 => ?_) (fun c_2 => ?_)
      · have k_3 : N ≤ k := (m_leN (a := N) (b := k) rfl rfl (by omega) (by omega)).mp c_2
        have k_3' : ¬ (k < N) := by omega
        refine lv_iload_n hx hb dX0_heatOfOthers_36 rfl (lv_at hl 1 rfl) ?_
        exact ro_iret hx hb hr hlocks (by rw [show k = N by omega]) dX0_heatOfOthers_37
      · have k_4 : ¬ (N ≤ k) := fun z => c_2 ((m_leN (a := N) (b := k) rfl rfl (by omega) (by omega)).mpr z)
        have k_4' : k < N := by omega
        exfalso; omega
    | succ d ih =>
      intro k hkk ls hl
      refine lv_iload_n hx hb dX0_heatOfOthers_4 rfl (lv_at hl 2 rfl) ?_
      refine lv_aload_n hx hb dX0_heatOfOthers_5 rfl (lv_at hl 0 rfl) ?_
      refine va_get (D := G) (ci := 4) (v := .int (nI N)) (C := RX0) (T := TX0) (N := 5) hx hb hts hi4 hown hK.1 hP 0 rfl rfl 0 (by decide) hf9 (fun _ h9 => h9) rfl dX0_heatOfOthers_6 ?_
      refine lv_icmp_ge (tgt := 36) hx hb dX0_heatOfOthers_9 (by decide) (fun c_5 => ?_) (fun c_5 => ?_)
      · have k_6 : N ≤ k := (m_leN (a := N) (b := k) rfl rfl (by omega) (by omega)).mp c_5
        have k_6' : ¬ (k < N) := by omega
        exfalso; omega
      · have k_7 : ¬ (N ≤ k) := fun z => c_5 ((m_leN (a := N) (b := k) rfl rfl (by omega) (by omega)).mpr z)
        have k_7' : k < N := by omega
        refine lv_aload_n hx hb dX0_heatOfOthers_12 rfl (lv_at hl 0 rfl) ?_
        refine va_get (D := G) (ci := 4) (v := .ref aM) (C := RX0) (T := TX0) (N := 5) hx hb hts hi4 hown hK.1 hP 0 rfl rfl 4 (by decide) hf26 (fun _ h9 => h9) rfl dX0_heatOfOthers_13 ?_
        refine lv_iload_n hx hb dX0_heatOfOthers_16 rfl (lv_at hl 2 rfl) ?_
        refine m_zald hx hb hK hP 4 (k := k) rfl rfl (by omega) (Nat.le_of_ble_eq_true rfl) dX0_heatOfOthers_17 ?_
        refine lv_if_ne (tgt := 30) hx hb dX0_heatOfOthers_18 (by decide) (fun c_8 => ?_) (fun c_8 => ?_)
        · refine lv_iinc (v := nI (k + 1)) (lv' := [(2, .int (nI (k + 1))), (0, .ref aB), (1, .int (sumO h me k))]) hx hb dX0_heatOfOthers_30 hl (k := 2) rfl (m_inc _) (by decide) rfl (fun ls hl => ?_)
          refine lv_goto (tgt := 4) hx hb dX0_heatOfOthers_33 (by decide) ?_
          have e_9 : sumO h me (k + 1) = sumO h me k := (by simp [sumO, c_5, c_8])
          exact ih (k + 1) (by omega) ls (by rw [e_9]; exact lv_sub hl [1, 2, 0] rfl)
        · refine lv_iload_n hx hb dX0_heatOfOthers_21 rfl (lv_at hl 1 rfl) ?_
          refine lv_aload_n hx hb dX0_heatOfOthers_22 rfl (lv_at hl 0 rfl) ?_
          refine va_get (D := G) (ci := 4) (v := .ref aH) (C := RX0) (T := TX0) (N := 5) hx hb hts hi4 hown hK.1 hP 0 rfl rfl 2 (by decide) hf19 (fun _ h9 => h9) rfl dX0_heatOfOthers_23 ?_
          refine lv_iload_n hx hb dX0_heatOfOthers_26 rfl (lv_at hl 2 rfl) ?_
          refine m_iald hx hb hK hP 2 (k := k) rfl rfl (by omega) (Nat.le_of_ble_eq_true rfl) dX0_heatOfOthers_27 ?_
          refine lv_iadd hx hb dX0_heatOfOthers_28 ?_
          refine lv_istore_n (lv' := [(1, .int ((sumO h me k) + (h k))), (0, .ref aB), (2, .int (nI k))]) hx hb dX0_heatOfOthers_29 rfl hl (by decide) rfl (fun ls hl => ?_)
          refine lv_iinc (v := nI (k + 1)) (lv' := [(2, .int (nI (k + 1))), (1, .int ((sumO h me k) + (h k))), (0, .ref aB)]) hx hb dX0_heatOfOthers_30 hl (k := 2) rfl (m_inc _) (by decide) rfl (fun ls hl => ?_)
          refine lv_goto (tgt := 4) hx hb dX0_heatOfOthers_33 (by decide) ?_
          have e_10 : sumO h me (k + 1) = (sumO h me k) + (h k) := (by simp [sumO, c_5, c_8])
          exact ih (k + 1) (by omega) ls (by rw [e_10]; exact lv_sub hl [2, 1, 0] rfl)
  exact L_1 N 0 (by omega) ls (lv_sub hl [2, 1, 0] rfl)

set_option maxRecDepth 100000 in
set_option maxHeartbeats 1000000 in
theorem c_X0_heatOfAll (l : Launch) (G : va_G) (cy : Nat → ClassId) (aB aV aH aP aM N : Nat) (v h pl me : Nat → Int32) (hN : N ≤ 5) : RO l yX0_heatOfAll wsX0_heatOfAll { frames := 0, cells := 0, slots := 0, locals := 0 } (PB G cy [(aB, .inr (4, [.int (nI N), .ref aV, .ref aH, .ref aP, .ref aM])), (aV, .inl (cy 2, 5, .inl v)), (aH, .inl (cy 2, 5, .inl h)), (aP, .inl (cy 3, 5, .inl pl)), (aM, .inl (cy 3, 5, .inl me))]) [.ref aB] (some (.int (sumA h N))) := by
  refine RO.ofW (cc := cX0_heatOfAll) (maxL := 3) (ret := (some .int)) (by decide) rfl (Nat.le_of_ble_eq_true rfl) ?_
  intro p e s m below meth c S9 hr hlocks hPB ls hl
  obtain ⟨hx, hb, hml, hown, hts⟩ := id S9
  obtain ⟨hP, hK⟩ := hPB
  have hl : lv_has ls 3 [(0, .ref aB)] := hl
  have hi4 : ∀ w ∈ wsX00, w ∈ wsX0_heatOfAll := by decide +kernel
  have hf9 := hts (.fieldLink RX0 9 "BathLeague$Baths" "count" "I") (by decide +kernel)
  have hf19 := hts (.fieldLink RX0 19 "BathLeague$Baths" "heat" "[I") (by decide +kernel)
  refine lv_iconst (v := 0) hx hb dX0_heatOfAll_0 (by decide) ?_
  refine lv_istore_n (lv' := [(1, .int 0), (0, .ref aB)]) hx hb dX0_heatOfAll_1 rfl hl (by decide) rfl (fun ls hl => ?_)
  refine lv_iconst (v := 0) hx hb dX0_heatOfAll_2 (by decide) ?_
  refine lv_istore_n (lv' := [(2, .int 0), (1, .int 0), (0, .ref aB)]) hx hb dX0_heatOfAll_3 rfl hl (by decide) rfl (fun ls hl => ?_)
  have L_1 : ∀ (d k : Nat), k + d = N → ∀ ls : Array Slot, lv_has ls 3 [(0, .ref aB), (1, .int (sumA h k)), (2, .int (nI k))] → W p l e ({ frames := 0, cells := 0, slots := 0, locals := 0 } : Room) s m ([.ref aB] : List Value).toArray below meth c s.heap [] 0 0 (roZ below ([.ref aB] : List Value).toArray s (some (.int (sumA h N)))) (F0 m 4 ls []) := by
    intro d
    induction d with
    | zero =>
      intro k hkk ls hl
      refine lv_iload_n hx hb dX0_heatOfAll_4 rfl (lv_at hl 2 rfl) ?_
      refine lv_aload_n hx hb dX0_heatOfAll_5 rfl (lv_at hl 0 rfl) ?_
      refine va_get (D := G) (ci := 4) (v := .int (nI N)) (C := RX0) (T := TX0) (N := 5) hx hb hts hi4 hown hK.1 hP 0 rfl rfl 0 (by decide) hf9 (fun _ h9 => h9) rfl dX0_heatOfAll_6 ?_
      refine lv_icmp_ge (tgt := 27) hx hb dX0_heatOfAll_9 (by decide) (fun c_2 => ?_) (fun c_2 => ?_)
      · have k_3 : N ≤ k := (m_leN (a := N) (b := k) rfl rfl (by omega) (by omega)).mp c_2
        have k_3' : ¬ (k < N) := by omega
        refine lv_iload_n hx hb dX0_heatOfAll_27 rfl (lv_at hl 1 rfl) ?_
        exact ro_iret hx hb hr hlocks (by rw [show k = N by omega]) dX0_heatOfAll_28
      · have k_4 : ¬ (N ≤ k) := fun z => c_2 ((m_leN (a := N) (b := k) rfl rfl (by omega) (by omega)).mpr z)
        have k_4' : k < N := by omega
        exfalso; omega
    | succ d ih =>
      intro k hkk ls hl
      refine lv_iload_n hx hb dX0_heatOfAll_4 rfl (lv_at hl 2 rfl) ?_
      refine lv_aload_n hx hb dX0_heatOfAll_5 rfl (lv_at hl 0 rfl) ?_
      refine va_get (D := G) (ci := 4) (v := .int (nI N)) (C := RX0) (T := TX0) (N := 5) hx hb hts hi4 hown hK.1 hP 0 rfl rfl 0 (by decide) hf9 (fun _ h9 => h9) rfl dX0_heatOfAll_6 ?_
      refine lv_icmp_ge (tgt := 27) hx hb dX0_heatOfAll_9 (by decide) (fun c_5 => ?_) (fun c_5 => ?_)
      · have k_6 : N ≤ k := (m_leN (a := N) (b := k) rfl rfl (by omega) (by omega)).mp c_5
        have k_6' : ¬ (k < N) := by omega
        exfalso; omega
      · have k_7 : ¬ (N ≤ k) := fun z => c_5 ((m_leN (a := N) (b := k) rfl rfl (by omega) (by omega)).mpr z)
        have k_7' : k < N := by omega
        refine lv_iload_n hx hb dX0_heatOfAll_12 rfl (lv_at hl 1 rfl) ?_
        refine lv_aload_n hx hb dX0_heatOfAll_13 rfl (lv_at hl 0 rfl) ?_
        refine va_get (D := G) (ci := 4) (v := .ref aH) (C := RX0) (T := TX0) (N := 5) hx hb hts hi4 hown hK.1 hP 0 rfl rfl 2 (by decide) hf19 (fun _ h9 => h9) rfl dX0_heatOfAll_14 ?_
        refine lv_iload_n hx hb dX0_heatOfAll_17 rfl (lv_at hl 2 rfl) ?_
        refine m_iald hx hb hK hP 2 (k := k) rfl rfl (by omega) (Nat.le_of_ble_eq_true rfl) dX0_heatOfAll_18 ?_
        refine lv_iadd hx hb dX0_heatOfAll_19 ?_
        refine lv_istore_n (lv' := [(1, .int ((sumA h k) + (h k))), (0, .ref aB), (2, .int (nI k))]) hx hb dX0_heatOfAll_20 rfl hl (by decide) rfl (fun ls hl => ?_)
        refine lv_iinc (v := nI (k + 1)) (lv' := [(2, .int (nI (k + 1))), (1, .int ((sumA h k) + (h k))), (0, .ref aB)]) hx hb dX0_heatOfAll_21 hl (k := 2) rfl (m_inc _) (by decide) rfl (fun ls hl => ?_)
        refine lv_goto (tgt := 4) hx hb dX0_heatOfAll_24 (by decide) ?_
        have e_8 : sumA h (k + 1) = (sumA h k) + (h k) := (by simp [sumA, c_5])
        exact ih (k + 1) (by omega) ls (by rw [e_8]; exact lv_sub hl [2, 1, 0] rfl)
  exact L_1 N 0 (by omega) ls (lv_sub hl [2, 1, 0] rfl)

set_option maxRecDepth 100000 in
set_option maxHeartbeats 1000000 in
theorem c_X0_volumeOfAll (l : Launch) (G : va_G) (cy : Nat → ClassId) (aB aV aH aP aM N : Nat) (v h pl me : Nat → Int32) (hN : N ≤ 5) : RO l yX0_volumeOfAll wsX0_volumeOfAll { frames := 0, cells := 0, slots := 0, locals := 0 } (PB G cy [(aB, .inr (4, [.int (nI N), .ref aV, .ref aH, .ref aP, .ref aM])), (aV, .inl (cy 2, 5, .inl v)), (aH, .inl (cy 2, 5, .inl h)), (aP, .inl (cy 3, 5, .inl pl)), (aM, .inl (cy 3, 5, .inl me))]) [.ref aB] (some (.int (sumA v N))) := by
  refine RO.ofW (cc := cX0_volumeOfAll) (maxL := 3) (ret := (some .int)) (by decide) rfl (Nat.le_of_ble_eq_true rfl) ?_
  intro p e s m below meth c S9 hr hlocks hPB ls hl
  obtain ⟨hx, hb, hml, hown, hts⟩ := id S9
  obtain ⟨hP, hK⟩ := hPB
  have hl : lv_has ls 3 [(0, .ref aB)] := hl
  have hi4 : ∀ w ∈ wsX00, w ∈ wsX0_volumeOfAll := by decide +kernel
  have hf9 := hts (.fieldLink RX0 9 "BathLeague$Baths" "count" "I") (by decide +kernel)
  have hf15 := hts (.fieldLink RX0 15 "BathLeague$Baths" "volume" "[I") (by decide +kernel)
  refine lv_iconst (v := 0) hx hb dX0_volumeOfAll_0 (by decide) ?_
  refine lv_istore_n (lv' := [(1, .int 0), (0, .ref aB)]) hx hb dX0_volumeOfAll_1 rfl hl (by decide) rfl (fun ls hl => ?_)
  refine lv_iconst (v := 0) hx hb dX0_volumeOfAll_2 (by decide) ?_
  refine lv_istore_n (lv' := [(2, .int 0), (1, .int 0), (0, .ref aB)]) hx hb dX0_volumeOfAll_3 rfl hl (by decide) rfl (fun ls hl => ?_)
  have L_1 : ∀ (d k : Nat), k + d = N → ∀ ls : Array Slot, lv_has ls 3 [(0, .ref aB), (1, .int (sumA v k)), (2, .int (nI k))] → W p l e ({ frames := 0, cells := 0, slots := 0, locals := 0 } : Room) s m ([.ref aB] : List Value).toArray below meth c s.heap [] 0 0 (roZ below ([.ref aB] : List Value).toArray s (some (.int (sumA v N)))) (F0 m 4 ls []) := by
    intro d
    induction d with
    | zero =>
      intro k hkk ls hl
      refine lv_iload_n hx hb dX0_volumeOfAll_4 rfl (lv_at hl 2 rfl) ?_
      refine lv_aload_n hx hb dX0_volumeOfAll_5 rfl (lv_at hl 0 rfl) ?_
      refine va_get (D := G) (ci := 4) (v := .int (nI N)) (C := RX0) (T := TX0) (N := 5) hx hb hts hi4 hown hK.1 hP 0 rfl rfl 0 (by decide) hf9 (fun _ h9 => h9) rfl dX0_volumeOfAll_6 ?_
      refine lv_icmp_ge (tgt := 27) hx hb dX0_volumeOfAll_9 (by decide) (fun c_2 => ?_) (fun c_2 => ?_)
      · have k_3 : N ≤ k := (m_leN (a := N) (b := k) rfl rfl (by omega) (by omega)).mp c_2
        have k_3' : ¬ (k < N) := by omega
        refine lv_iload_n hx hb dX0_volumeOfAll_27 rfl (lv_at hl 1 rfl) ?_
        exact ro_iret hx hb hr hlocks (by rw [show k = N by omega]) dX0_volumeOfAll_28
      · have k_4 : ¬ (N ≤ k) := fun z => c_2 ((m_leN (a := N) (b := k) rfl rfl (by omega) (by omega)).mpr z)
        have k_4' : k < N := by omega
        exfalso; omega
    | succ d ih =>
      intro k hkk ls hl
      refine lv_iload_n hx hb dX0_volumeOfAll_4 rfl (lv_at hl 2 rfl) ?_
      refine lv_aload_n hx hb dX0_volumeOfAll_5 rfl (lv_at hl 0 rfl) ?_
      refine va_get (D := G) (ci := 4) (v := .int (nI N)) (C := RX0) (T := TX0) (N := 5) hx hb hts hi4 hown hK.1 hP 0 rfl rfl 0 (by decide) hf9 (fun _ h9 => h9) rfl dX0_volumeOfAll_6 ?_
      refine lv_icmp_ge (tgt := 27) hx hb dX0_volumeOfAll_9 (by decide) (fun c_5 => ?_) (fun c_5 => ?_)
      · have k_6 : N ≤ k := (m_leN (a := N) (b := k) rfl rfl (by omega) (by omega)).mp c_5
        have k_6' : ¬ (k < N) := by omega
        exfalso; omega
      · have k_7 : ¬ (N ≤ k) := fun z => c_5 ((m_leN (a := N) (b := k) rfl rfl (by omega) (by omega)).mpr z)
        have k_7' : k < N := by omega
        refine lv_iload_n hx hb dX0_volumeOfAll_12 rfl (lv_at hl 1 rfl) ?_
        refine lv_aload_n hx hb dX0_volumeOfAll_13 rfl (lv_at hl 0 rfl) ?_
        refine va_get (D := G) (ci := 4) (v := .ref aV) (C := RX0) (T := TX0) (N := 5) hx hb hts hi4 hown hK.1 hP 0 rfl rfl 1 (by decide) hf15 (fun _ h9 => h9) rfl dX0_volumeOfAll_14 ?_
        refine lv_iload_n hx hb dX0_volumeOfAll_17 rfl (lv_at hl 2 rfl) ?_
        refine m_iald hx hb hK hP 1 (k := k) rfl rfl (by omega) (Nat.le_of_ble_eq_true rfl) dX0_volumeOfAll_18 ?_
        refine lv_iadd hx hb dX0_volumeOfAll_19 ?_
        refine lv_istore_n (lv' := [(1, .int ((sumA v k) + (v k))), (0, .ref aB), (2, .int (nI k))]) hx hb dX0_volumeOfAll_20 rfl hl (by decide) rfl (fun ls hl => ?_)
        refine lv_iinc (v := nI (k + 1)) (lv' := [(2, .int (nI (k + 1))), (1, .int ((sumA v k) + (v k))), (0, .ref aB)]) hx hb dX0_volumeOfAll_21 hl (k := 2) rfl (m_inc _) (by decide) rfl (fun ls hl => ?_)
        refine lv_goto (tgt := 4) hx hb dX0_volumeOfAll_24 (by decide) ?_
        have e_8 : sumA v (k + 1) = (sumA v k) + (v k) := (by simp [sumA, c_5])
        exact ih (k + 1) (by omega) ls (by rw [e_8]; exact lv_sub hl [2, 1, 0] rfl)
  exact L_1 N 0 (by omega) ls (lv_sub hl [2, 1, 0] rfl)

set_option maxRecDepth 100000 in
set_option maxHeartbeats 1000000 in
theorem c_X0_hottestMember (l : Launch) (G : va_G) (cy : Nat → ClassId) (aB aV aH aP aM N : Nat) (v h pl me : Nat → Int32) (hN : N ≤ 5) : RO l yX0_hottestMember wsX0_hottestMember { frames := 1, cells := 0, slots := 0, locals := 22 } (PB G cy [(aB, .inr (4, [.int (nI N), .ref aV, .ref aH, .ref aP, .ref aM])), (aV, .inl (cy 2, 5, .inl v)), (aH, .inl (cy 2, 5, .inl h)), (aP, .inl (cy 3, 5, .inl pl)), (aM, .inl (cy 3, 5, .inl me))]) [.ref aB] (some (.int (oi (hotO v h me N)))) := by
  refine RO.ofW (cc := cX0_hottestMember) (maxL := 3) (ret := (some .int)) (by decide) rfl (Nat.le_of_ble_eq_true rfl) ?_
  intro p e s m below meth c S9 hr hlocks hPB ls hl
  obtain ⟨hx, hb, hml, hown, hts⟩ := id S9
  obtain ⟨hP, hK⟩ := hPB
  have hl : lv_has ls 3 [(0, .ref aB)] := hl
  have hi4 : ∀ w ∈ wsX00, w ∈ wsX0_hottestMember := by decide +kernel
  have hf9 := hts (.fieldLink RX0 9 "BathLeague$Baths" "count" "I") (by decide +kernel)
  have hf26 := hts (.fieldLink RX0 26 "BathLeague$Baths" "member" "[Z") (by decide +kernel)
  refine lv_iconst (v := (-1)) hx hb dX0_hottestMember_0 (by decide) ?_
  refine lv_istore_n (lv' := [(1, .int (-1)), (0, .ref aB)]) hx hb dX0_hottestMember_1 rfl hl (by decide) rfl (fun ls hl => ?_)
  refine lv_iconst (v := 0) hx hb dX0_hottestMember_2 (by decide) ?_
  refine lv_istore_n (lv' := [(2, .int 0), (1, .int (-1)), (0, .ref aB)]) hx hb dX0_hottestMember_3 rfl hl (by decide) rfl (fun ls hl => ?_)
  have L_1 : ∀ (d k : Nat), k + d = N → ∀ ls : Array Slot, lv_has ls 3 [(0, .ref aB), (1, .int (oi (hotO v h me k))), (2, .int (nI k))] → W p l e ({ frames := 1, cells := 0, slots := 0, locals := 22 } : Room) s m ([.ref aB] : List Value).toArray below meth c s.heap [] 0 0 (roZ below ([.ref aB] : List Value).toArray s (some (.int (oi (hotO v h me N))))) (F0 m 4 ls []) := by
    intro d
    induction d with
    | zero =>
      intro k hkk ls hl
      refine lv_iload_n hx hb dX0_hottestMember_4 rfl (lv_at hl 2 rfl) ?_
      refine lv_aload_n hx hb dX0_hottestMember_5 rfl (lv_at hl 0 rfl) ?_
      refine va_get (D := G) (ci := 4) (v := .int (nI N)) (C := RX0) (T := TX0) (N := 5) hx hb hts hi4 hown hK.1 hP 0 rfl rfl 0 (by decide) hf9 (fun _ h9 => h9) rfl dX0_hottestMember_6 ?_
      refine lv_icmp_ge (tgt := 51) hx hb dX0_hottestMember_9 (by decide) (fun c_2 => ?_) (fun c_2 => ?_)
      · have k_3 : N ≤ k := (m_leN (a := N) (b := k) rfl rfl (by omega) (by omega)).mp c_2
        have k_3' : ¬ (k < N) := by omega
        refine lv_iload_n hx hb dX0_hottestMember_51 rfl (lv_at hl 1 rfl) ?_
        exact ro_iret hx hb hr hlocks (by rw [show k = N by omega]) dX0_hottestMember_52
      · have k_4 : ¬ (N ≤ k) := fun z => c_2 ((m_leN (a := N) (b := k) rfl rfl (by omega) (by omega)).mpr z)
        have k_4' : k < N := by omega
        exfalso; omega
    | succ d ih =>
      intro k hkk ls hl
      rcases hO : hotO v h me k with _ | j
      · rw [hO] at hl
        have hl : lv_has ls 3 [(0, .ref aB), (1, .int (-1)), (2, .int (nI k))] := hl
        refine lv_iload_n hx hb dX0_hottestMember_4 rfl (lv_at hl 2 rfl) ?_
        refine lv_aload_n hx hb dX0_hottestMember_5 rfl (lv_at hl 0 rfl) ?_
        refine va_get (D := G) (ci := 4) (v := .int (nI N)) (C := RX0) (T := TX0) (N := 5) hx hb hts hi4 hown hK.1 hP 0 rfl rfl 0 (by decide) hf9 (fun _ h9 => h9) rfl dX0_hottestMember_6 ?_
        refine lv_icmp_ge (tgt := 51) hx hb dX0_hottestMember_9 (by decide) (fun c_5 => ?_) (fun c_5 => ?_)
        · have k_6 : N ≤ k := (m_leN (a := N) (b := k) rfl rfl (by omega) (by omega)).mp c_5
          have k_6' : ¬ (k < N) := by omega
          exfalso; omega
        · have k_7 : ¬ (N ≤ k) := fun z => c_5 ((m_leN (a := N) (b := k) rfl rfl (by omega) (by omega)).mpr z)
          have k_7' : k < N := by omega
          refine lv_aload_n hx hb dX0_hottestMember_12 rfl (lv_at hl 0 rfl) ?_
          refine va_get (D := G) (ci := 4) (v := .ref aM) (C := RX0) (T := TX0) (N := 5) hx hb hts hi4 hown hK.1 hP 0 rfl rfl 4 (by decide) hf26 (fun _ h9 => h9) rfl dX0_hottestMember_13 ?_
          refine lv_iload_n hx hb dX0_hottestMember_16 rfl (lv_at hl 2 rfl) ?_
          refine m_zald hx hb hK hP 4 (k := k) rfl rfl (by omega) (Nat.le_of_ble_eq_true rfl) dX0_hottestMember_17 ?_
          refine lv_if_eq (tgt := 45) hx hb dX0_hottestMember_18 (by decide) (fun c_8 => ?_) (fun c_8 => ?_)
          · refine lv_iinc (v := nI (k + 1)) (lv' := [(2, .int (nI (k + 1))), (0, .ref aB), (1, .int (-1))]) hx hb dX0_hottestMember_45 hl (k := 2) rfl (m_inc _) (by decide) rfl (fun ls hl => ?_)
            refine lv_goto (tgt := 4) hx hb dX0_hottestMember_48 (by decide) ?_
            have e_9 : oi (hotO v h me (k + 1)) = (-1) := (by simp [hotO, oi, hO, c_5, c_8])
            exact ih (k + 1) (by omega) ls (by rw [e_9]; exact lv_sub hl [1, 2, 0] rfl)
          · refine lv_aload_n hx hb dX0_hottestMember_21 rfl (lv_at hl 0 rfl) ?_
            refine lv_iload_n hx hb dX0_hottestMember_22 rfl (lv_at hl 2 rfl) ?_
            refine c_roVi S9 (c_X0_hasWater l G cy aB aV aH aP aM N v h pl me k (by omega)) (cwV 1 hts gX0_hottestMember_X0_hasWater rfl rfl rfl (by decide +kernel) ⟨Nat.le_of_ble_eq_true rfl, Nat.le_of_ble_eq_true rfl⟩) PB.blind (va_recv hK.1 hP (ci := 4) (q0 := 0) rfl rfl) (PB.at hK (m_Ppart hP [0, 1, 2, 3, 4] rfl)) rfl hl.1 rfl (Nat.le_of_ble_eq_true rfl) ⟨Nat.zero_le _, Nat.zero_le _⟩ dX0_hottestMember_23 ?_
            refine lv_if_eq (tgt := 45) hx hb dX0_hottestMember_26 (by decide) (fun c_10 => ?_) (fun c_10 => ?_)
            · have b_11 : ¬ (wet v k = true) := m_ite0.mp c_10
              refine lv_iinc (v := nI (k + 1)) (lv' := [(2, .int (nI (k + 1))), (0, .ref aB), (1, .int (-1))]) hx hb dX0_hottestMember_45 hl (k := 2) rfl (m_inc _) (by decide) rfl (fun ls hl => ?_)
              refine lv_goto (tgt := 4) hx hb dX0_hottestMember_48 (by decide) ?_
              have e_12 : oi (hotO v h me (k + 1)) = (-1) := (by simp [hotO, oi, hO, c_5, c_8, b_11])
              exact ih (k + 1) (by omega) ls (by rw [e_12]; exact lv_sub hl [1, 2, 0] rfl)
            · have b_13 : wet v k = true := m_ite1.mp c_10
              refine lv_iload_n hx hb dX0_hottestMember_29 rfl (lv_at hl 1 rfl) ?_
              refine lv_iconst (v := (-1)) hx hb dX0_hottestMember_30 (by decide) ?_
              refine lv_icmp_eq (tgt := 43) hx hb dX0_hottestMember_31 (by decide) (fun c_14 => ?_) (fun c_14 => ?_)
              · refine lv_iload_n hx hb dX0_hottestMember_43 rfl (lv_at hl 2 rfl) ?_
                refine lv_istore_n (lv' := [(1, .int (nI k)), (0, .ref aB), (2, .int (nI k))]) hx hb dX0_hottestMember_44 rfl hl (by decide) rfl (fun ls hl => ?_)
                refine lv_iinc (v := nI (k + 1)) (lv' := [(2, .int (nI (k + 1))), (1, .int (nI k)), (0, .ref aB)]) hx hb dX0_hottestMember_45 hl (k := 2) rfl (m_inc _) (by decide) rfl (fun ls hl => ?_)
                refine lv_goto (tgt := 4) hx hb dX0_hottestMember_48 (by decide) ?_
                have e_15 : oi (hotO v h me (k + 1)) = nI k := (by simp [hotO, oi, hO, c_5, c_8, b_13])
                exact ih (k + 1) (by omega) ls (by rw [e_15]; exact lv_sub hl [2, 1, 0] rfl)
              · exact absurd c_14 (by decide)
      · rw [hO] at hl
        have hl : lv_has ls 3 [(0, .ref aB), (1, .int (nI j)), (2, .int (nI k))] := hl
        have hj : j < k := hotO_lt hO
        refine lv_iload_n hx hb dX0_hottestMember_4 rfl (lv_at hl 2 rfl) ?_
        refine lv_aload_n hx hb dX0_hottestMember_5 rfl (lv_at hl 0 rfl) ?_
        refine va_get (D := G) (ci := 4) (v := .int (nI N)) (C := RX0) (T := TX0) (N := 5) hx hb hts hi4 hown hK.1 hP 0 rfl rfl 0 (by decide) hf9 (fun _ h9 => h9) rfl dX0_hottestMember_6 ?_
        refine lv_icmp_ge (tgt := 51) hx hb dX0_hottestMember_9 (by decide) (fun c_16 => ?_) (fun c_16 => ?_)
        · have k_17 : N ≤ k := (m_leN (a := N) (b := k) rfl rfl (by omega) (by omega)).mp c_16
          have k_17' : ¬ (k < N) := by omega
          exfalso; omega
        · have k_18 : ¬ (N ≤ k) := fun z => c_16 ((m_leN (a := N) (b := k) rfl rfl (by omega) (by omega)).mpr z)
          have k_18' : k < N := by omega
          refine lv_aload_n hx hb dX0_hottestMember_12 rfl (lv_at hl 0 rfl) ?_
          refine va_get (D := G) (ci := 4) (v := .ref aM) (C := RX0) (T := TX0) (N := 5) hx hb hts hi4 hown hK.1 hP 0 rfl rfl 4 (by decide) hf26 (fun _ h9 => h9) rfl dX0_hottestMember_13 ?_
          refine lv_iload_n hx hb dX0_hottestMember_16 rfl (lv_at hl 2 rfl) ?_
          refine m_zald hx hb hK hP 4 (k := k) rfl rfl (by omega) (Nat.le_of_ble_eq_true rfl) dX0_hottestMember_17 ?_
          refine lv_if_eq (tgt := 45) hx hb dX0_hottestMember_18 (by decide) (fun c_19 => ?_) (fun c_19 => ?_)
          · refine lv_iinc (v := nI (k + 1)) (lv' := [(2, .int (nI (k + 1))), (0, .ref aB), (1, .int (nI j))]) hx hb dX0_hottestMember_45 hl (k := 2) rfl (m_inc _) (by decide) rfl (fun ls hl => ?_)
            refine lv_goto (tgt := 4) hx hb dX0_hottestMember_48 (by decide) ?_
            have e_20 : oi (hotO v h me (k + 1)) = nI j := (by simp [hotO, oi, hO, c_16, c_19])
            exact ih (k + 1) (by omega) ls (by rw [e_20]; exact lv_sub hl [1, 2, 0] rfl)
          · refine lv_aload_n hx hb dX0_hottestMember_21 rfl (lv_at hl 0 rfl) ?_
            refine lv_iload_n hx hb dX0_hottestMember_22 rfl (lv_at hl 2 rfl) ?_
            refine c_roVi S9 (c_X0_hasWater l G cy aB aV aH aP aM N v h pl me k (by omega)) (cwV 1 hts gX0_hottestMember_X0_hasWater rfl rfl rfl (by decide +kernel) ⟨Nat.le_of_ble_eq_true rfl, Nat.le_of_ble_eq_true rfl⟩) PB.blind (va_recv hK.1 hP (ci := 4) (q0 := 0) rfl rfl) (PB.at hK (m_Ppart hP [0, 1, 2, 3, 4] rfl)) rfl hl.1 rfl (Nat.le_of_ble_eq_true rfl) ⟨Nat.zero_le _, Nat.zero_le _⟩ dX0_hottestMember_23 ?_
            refine lv_if_eq (tgt := 45) hx hb dX0_hottestMember_26 (by decide) (fun c_21 => ?_) (fun c_21 => ?_)
            · have b_22 : ¬ (wet v k = true) := m_ite0.mp c_21
              refine lv_iinc (v := nI (k + 1)) (lv' := [(2, .int (nI (k + 1))), (0, .ref aB), (1, .int (nI j))]) hx hb dX0_hottestMember_45 hl (k := 2) rfl (m_inc _) (by decide) rfl (fun ls hl => ?_)
              refine lv_goto (tgt := 4) hx hb dX0_hottestMember_48 (by decide) ?_
              have e_23 : oi (hotO v h me (k + 1)) = nI j := (by simp [hotO, oi, hO, c_16, c_19, b_22])
              exact ih (k + 1) (by omega) ls (by rw [e_23]; exact lv_sub hl [1, 2, 0] rfl)
            · have b_24 : wet v k = true := m_ite1.mp c_21
              refine lv_iload_n hx hb dX0_hottestMember_29 rfl (lv_at hl 1 rfl) ?_
              refine lv_iconst (v := (-1)) hx hb dX0_hottestMember_30 (by decide) ?_
              refine lv_icmp_eq (tgt := 43) hx hb dX0_hottestMember_31 (by decide) (fun c_25 => ?_) (fun c_25 => ?_)
              · exact absurd c_25 (m_nm1 (by omega))
              · refine lv_aload_n hx hb dX0_hottestMember_34 rfl (lv_at hl 0 rfl) ?_
                refine lv_iload_n hx hb dX0_hottestMember_35 rfl (lv_at hl 2 rfl) ?_
                refine lv_iload_n hx hb dX0_hottestMember_36 rfl (lv_at hl 1 rfl) ?_
                refine c_roVi S9 (c_X0_isHotter l G cy aB aV aH aP aM N v h pl me k j (by omega) (by omega)) (cwV 2 hts gX0_hottestMember_X0_isHotter rfl rfl rfl (by decide +kernel) ⟨Nat.le_of_ble_eq_true rfl, Nat.le_of_ble_eq_true rfl⟩) PB.blind (va_recv hK.1 hP (ci := 4) (q0 := 0) rfl rfl) (PB.at hK (m_Ppart hP [0, 1, 2, 3, 4] rfl)) rfl hl.1 rfl (Nat.le_of_ble_eq_true rfl) ⟨Nat.zero_le _, Nat.zero_le _⟩ dX0_hottestMember_37 ?_
                refine lv_if_eq (tgt := 45) hx hb dX0_hottestMember_40 (by decide) (fun c_26 => ?_) (fun c_26 => ?_)
                · have b_27 : ¬ (hotter v h k j = true) := m_ite0.mp c_26
                  refine lv_iinc (v := nI (k + 1)) (lv' := [(2, .int (nI (k + 1))), (0, .ref aB), (1, .int (nI j))]) hx hb dX0_hottestMember_45 hl (k := 2) rfl (m_inc _) (by decide) rfl (fun ls hl => ?_)
                  refine lv_goto (tgt := 4) hx hb dX0_hottestMember_48 (by decide) ?_
                  have e_28 : oi (hotO v h me (k + 1)) = nI j := (by simp [hotO, oi, hO, c_16, c_19, b_24, c_25, b_27])
                  exact ih (k + 1) (by omega) ls (by rw [e_28]; exact lv_sub hl [1, 2, 0] rfl)
                · have b_29 : hotter v h k j = true := m_ite1.mp c_26
                  refine lv_iload_n hx hb dX0_hottestMember_43 rfl (lv_at hl 2 rfl) ?_
                  refine lv_istore_n (lv' := [(1, .int (nI k)), (0, .ref aB), (2, .int (nI k))]) hx hb dX0_hottestMember_44 rfl hl (by decide) rfl (fun ls hl => ?_)
                  refine lv_iinc (v := nI (k + 1)) (lv' := [(2, .int (nI (k + 1))), (1, .int (nI k)), (0, .ref aB)]) hx hb dX0_hottestMember_45 hl (k := 2) rfl (m_inc _) (by decide) rfl (fun ls hl => ?_)
                  refine lv_goto (tgt := 4) hx hb dX0_hottestMember_48 (by decide) ?_
                  have e_30 : oi (hotO v h me (k + 1)) = nI k := (by simp [hotO, oi, hO, c_16, c_19, b_24, c_25, b_29])
                  exact ih (k + 1) (by omega) ls (by rw [e_30]; exact lv_sub hl [2, 1, 0] rfl)
  exact L_1 N 0 (by omega) ls (lv_sub hl [2, 1, 0] rfl)

set_option maxRecDepth 100000 in
set_option maxHeartbeats 1000000 in
theorem c_X0_coolestMember (l : Launch) (G : va_G) (cy : Nat → ClassId) (aB aV aH aP aM N : Nat) (v h pl me : Nat → Int32) (hN : N ≤ 5) : RO l yX0_coolestMember wsX0_coolestMember { frames := 1, cells := 0, slots := 0, locals := 22 } (PB G cy [(aB, .inr (4, [.int (nI N), .ref aV, .ref aH, .ref aP, .ref aM])), (aV, .inl (cy 2, 5, .inl v)), (aH, .inl (cy 2, 5, .inl h)), (aP, .inl (cy 3, 5, .inl pl)), (aM, .inl (cy 3, 5, .inl me))]) [.ref aB] (some (.int (oi (colO v h me N)))) := by
  refine RO.ofW (cc := cX0_coolestMember) (maxL := 3) (ret := (some .int)) (by decide) rfl (Nat.le_of_ble_eq_true rfl) ?_
  intro p e s m below meth c S9 hr hlocks hPB ls hl
  obtain ⟨hx, hb, hml, hown, hts⟩ := id S9
  obtain ⟨hP, hK⟩ := hPB
  have hl : lv_has ls 3 [(0, .ref aB)] := hl
  have hi4 : ∀ w ∈ wsX00, w ∈ wsX0_coolestMember := by decide +kernel
  have hf9 := hts (.fieldLink RX0 9 "BathLeague$Baths" "count" "I") (by decide +kernel)
  have hf26 := hts (.fieldLink RX0 26 "BathLeague$Baths" "member" "[Z") (by decide +kernel)
  refine lv_iconst (v := (-1)) hx hb dX0_coolestMember_0 (by decide) ?_
  refine lv_istore_n (lv' := [(1, .int (-1)), (0, .ref aB)]) hx hb dX0_coolestMember_1 rfl hl (by decide) rfl (fun ls hl => ?_)
  refine lv_iconst (v := 0) hx hb dX0_coolestMember_2 (by decide) ?_
  refine lv_istore_n (lv' := [(2, .int 0), (1, .int (-1)), (0, .ref aB)]) hx hb dX0_coolestMember_3 rfl hl (by decide) rfl (fun ls hl => ?_)
  have L_1 : ∀ (d k : Nat), k + d = N → ∀ ls : Array Slot, lv_has ls 3 [(0, .ref aB), (1, .int (oi (colO v h me k))), (2, .int (nI k))] → W p l e ({ frames := 1, cells := 0, slots := 0, locals := 22 } : Room) s m ([.ref aB] : List Value).toArray below meth c s.heap [] 0 0 (roZ below ([.ref aB] : List Value).toArray s (some (.int (oi (colO v h me N))))) (F0 m 4 ls []) := by
    intro d
    induction d with
    | zero =>
      intro k hkk ls hl
      refine lv_iload_n hx hb dX0_coolestMember_4 rfl (lv_at hl 2 rfl) ?_
      refine lv_aload_n hx hb dX0_coolestMember_5 rfl (lv_at hl 0 rfl) ?_
      refine va_get (D := G) (ci := 4) (v := .int (nI N)) (C := RX0) (T := TX0) (N := 5) hx hb hts hi4 hown hK.1 hP 0 rfl rfl 0 (by decide) hf9 (fun _ h9 => h9) rfl dX0_coolestMember_6 ?_
      refine lv_icmp_ge (tgt := 51) hx hb dX0_coolestMember_9 (by decide) (fun c_2 => ?_) (fun c_2 => ?_)
      · have k_3 : N ≤ k := (m_leN (a := N) (b := k) rfl rfl (by omega) (by omega)).mp c_2
        have k_3' : ¬ (k < N) := by omega
        refine lv_iload_n hx hb dX0_coolestMember_51 rfl (lv_at hl 1 rfl) ?_
        exact ro_iret hx hb hr hlocks (by rw [show k = N by omega]) dX0_coolestMember_52
      · have k_4 : ¬ (N ≤ k) := fun z => c_2 ((m_leN (a := N) (b := k) rfl rfl (by omega) (by omega)).mpr z)
        have k_4' : k < N := by omega
        exfalso; omega
    | succ d ih =>
      intro k hkk ls hl
      rcases hO : colO v h me k with _ | j
      · rw [hO] at hl
        have hl : lv_has ls 3 [(0, .ref aB), (1, .int (-1)), (2, .int (nI k))] := hl
        refine lv_iload_n hx hb dX0_coolestMember_4 rfl (lv_at hl 2 rfl) ?_
        refine lv_aload_n hx hb dX0_coolestMember_5 rfl (lv_at hl 0 rfl) ?_
        refine va_get (D := G) (ci := 4) (v := .int (nI N)) (C := RX0) (T := TX0) (N := 5) hx hb hts hi4 hown hK.1 hP 0 rfl rfl 0 (by decide) hf9 (fun _ h9 => h9) rfl dX0_coolestMember_6 ?_
        refine lv_icmp_ge (tgt := 51) hx hb dX0_coolestMember_9 (by decide) (fun c_5 => ?_) (fun c_5 => ?_)
        · have k_6 : N ≤ k := (m_leN (a := N) (b := k) rfl rfl (by omega) (by omega)).mp c_5
          have k_6' : ¬ (k < N) := by omega
          exfalso; omega
        · have k_7 : ¬ (N ≤ k) := fun z => c_5 ((m_leN (a := N) (b := k) rfl rfl (by omega) (by omega)).mpr z)
          have k_7' : k < N := by omega
          refine lv_aload_n hx hb dX0_coolestMember_12 rfl (lv_at hl 0 rfl) ?_
          refine va_get (D := G) (ci := 4) (v := .ref aM) (C := RX0) (T := TX0) (N := 5) hx hb hts hi4 hown hK.1 hP 0 rfl rfl 4 (by decide) hf26 (fun _ h9 => h9) rfl dX0_coolestMember_13 ?_
          refine lv_iload_n hx hb dX0_coolestMember_16 rfl (lv_at hl 2 rfl) ?_
          refine m_zald hx hb hK hP 4 (k := k) rfl rfl (by omega) (Nat.le_of_ble_eq_true rfl) dX0_coolestMember_17 ?_
          refine lv_if_eq (tgt := 45) hx hb dX0_coolestMember_18 (by decide) (fun c_8 => ?_) (fun c_8 => ?_)
          · refine lv_iinc (v := nI (k + 1)) (lv' := [(2, .int (nI (k + 1))), (0, .ref aB), (1, .int (-1))]) hx hb dX0_coolestMember_45 hl (k := 2) rfl (m_inc _) (by decide) rfl (fun ls hl => ?_)
            refine lv_goto (tgt := 4) hx hb dX0_coolestMember_48 (by decide) ?_
            have e_9 : oi (colO v h me (k + 1)) = (-1) := (by simp [colO, oi, hO, c_5, c_8])
            exact ih (k + 1) (by omega) ls (by rw [e_9]; exact lv_sub hl [1, 2, 0] rfl)
          · refine lv_aload_n hx hb dX0_coolestMember_21 rfl (lv_at hl 0 rfl) ?_
            refine lv_iload_n hx hb dX0_coolestMember_22 rfl (lv_at hl 2 rfl) ?_
            refine c_roVi S9 (c_X0_hasWater l G cy aB aV aH aP aM N v h pl me k (by omega)) (cwV 1 hts gX0_coolestMember_X0_hasWater rfl rfl rfl (by decide +kernel) ⟨Nat.le_of_ble_eq_true rfl, Nat.le_of_ble_eq_true rfl⟩) PB.blind (va_recv hK.1 hP (ci := 4) (q0 := 0) rfl rfl) (PB.at hK (m_Ppart hP [0, 1, 2, 3, 4] rfl)) rfl hl.1 rfl (Nat.le_of_ble_eq_true rfl) ⟨Nat.zero_le _, Nat.zero_le _⟩ dX0_coolestMember_23 ?_
            refine lv_if_eq (tgt := 45) hx hb dX0_coolestMember_26 (by decide) (fun c_10 => ?_) (fun c_10 => ?_)
            · have b_11 : ¬ (wet v k = true) := m_ite0.mp c_10
              refine lv_iinc (v := nI (k + 1)) (lv' := [(2, .int (nI (k + 1))), (0, .ref aB), (1, .int (-1))]) hx hb dX0_coolestMember_45 hl (k := 2) rfl (m_inc _) (by decide) rfl (fun ls hl => ?_)
              refine lv_goto (tgt := 4) hx hb dX0_coolestMember_48 (by decide) ?_
              have e_12 : oi (colO v h me (k + 1)) = (-1) := (by simp [colO, oi, hO, c_5, c_8, b_11])
              exact ih (k + 1) (by omega) ls (by rw [e_12]; exact lv_sub hl [1, 2, 0] rfl)
            · have b_13 : wet v k = true := m_ite1.mp c_10
              refine lv_iload_n hx hb dX0_coolestMember_29 rfl (lv_at hl 1 rfl) ?_
              refine lv_iconst (v := (-1)) hx hb dX0_coolestMember_30 (by decide) ?_
              refine lv_icmp_eq (tgt := 43) hx hb dX0_coolestMember_31 (by decide) (fun c_14 => ?_) (fun c_14 => ?_)
              · refine lv_iload_n hx hb dX0_coolestMember_43 rfl (lv_at hl 2 rfl) ?_
                refine lv_istore_n (lv' := [(1, .int (nI k)), (0, .ref aB), (2, .int (nI k))]) hx hb dX0_coolestMember_44 rfl hl (by decide) rfl (fun ls hl => ?_)
                refine lv_iinc (v := nI (k + 1)) (lv' := [(2, .int (nI (k + 1))), (1, .int (nI k)), (0, .ref aB)]) hx hb dX0_coolestMember_45 hl (k := 2) rfl (m_inc _) (by decide) rfl (fun ls hl => ?_)
                refine lv_goto (tgt := 4) hx hb dX0_coolestMember_48 (by decide) ?_
                have e_15 : oi (colO v h me (k + 1)) = nI k := (by simp [colO, oi, hO, c_5, c_8, b_13])
                exact ih (k + 1) (by omega) ls (by rw [e_15]; exact lv_sub hl [2, 1, 0] rfl)
              · exact absurd c_14 (by decide)
      · rw [hO] at hl
        have hl : lv_has ls 3 [(0, .ref aB), (1, .int (nI j)), (2, .int (nI k))] := hl
        have hj : j < k := colO_lt hO
        refine lv_iload_n hx hb dX0_coolestMember_4 rfl (lv_at hl 2 rfl) ?_
        refine lv_aload_n hx hb dX0_coolestMember_5 rfl (lv_at hl 0 rfl) ?_
        refine va_get (D := G) (ci := 4) (v := .int (nI N)) (C := RX0) (T := TX0) (N := 5) hx hb hts hi4 hown hK.1 hP 0 rfl rfl 0 (by decide) hf9 (fun _ h9 => h9) rfl dX0_coolestMember_6 ?_
        refine lv_icmp_ge (tgt := 51) hx hb dX0_coolestMember_9 (by decide) (fun c_16 => ?_) (fun c_16 => ?_)
        · have k_17 : N ≤ k := (m_leN (a := N) (b := k) rfl rfl (by omega) (by omega)).mp c_16
          have k_17' : ¬ (k < N) := by omega
          exfalso; omega
        · have k_18 : ¬ (N ≤ k) := fun z => c_16 ((m_leN (a := N) (b := k) rfl rfl (by omega) (by omega)).mpr z)
          have k_18' : k < N := by omega
          refine lv_aload_n hx hb dX0_coolestMember_12 rfl (lv_at hl 0 rfl) ?_
          refine va_get (D := G) (ci := 4) (v := .ref aM) (C := RX0) (T := TX0) (N := 5) hx hb hts hi4 hown hK.1 hP 0 rfl rfl 4 (by decide) hf26 (fun _ h9 => h9) rfl dX0_coolestMember_13 ?_
          refine lv_iload_n hx hb dX0_coolestMember_16 rfl (lv_at hl 2 rfl) ?_
          refine m_zald hx hb hK hP 4 (k := k) rfl rfl (by omega) (Nat.le_of_ble_eq_true rfl) dX0_coolestMember_17 ?_
          refine lv_if_eq (tgt := 45) hx hb dX0_coolestMember_18 (by decide) (fun c_19 => ?_) (fun c_19 => ?_)
          · refine lv_iinc (v := nI (k + 1)) (lv' := [(2, .int (nI (k + 1))), (0, .ref aB), (1, .int (nI j))]) hx hb dX0_coolestMember_45 hl (k := 2) rfl (m_inc _) (by decide) rfl (fun ls hl => ?_)
            refine lv_goto (tgt := 4) hx hb dX0_coolestMember_48 (by decide) ?_
            have e_20 : oi (colO v h me (k + 1)) = nI j := (by simp [colO, oi, hO, c_16, c_19])
            exact ih (k + 1) (by omega) ls (by rw [e_20]; exact lv_sub hl [1, 2, 0] rfl)
          · refine lv_aload_n hx hb dX0_coolestMember_21 rfl (lv_at hl 0 rfl) ?_
            refine lv_iload_n hx hb dX0_coolestMember_22 rfl (lv_at hl 2 rfl) ?_
            refine c_roVi S9 (c_X0_hasWater l G cy aB aV aH aP aM N v h pl me k (by omega)) (cwV 1 hts gX0_coolestMember_X0_hasWater rfl rfl rfl (by decide +kernel) ⟨Nat.le_of_ble_eq_true rfl, Nat.le_of_ble_eq_true rfl⟩) PB.blind (va_recv hK.1 hP (ci := 4) (q0 := 0) rfl rfl) (PB.at hK (m_Ppart hP [0, 1, 2, 3, 4] rfl)) rfl hl.1 rfl (Nat.le_of_ble_eq_true rfl) ⟨Nat.zero_le _, Nat.zero_le _⟩ dX0_coolestMember_23 ?_
            refine lv_if_eq (tgt := 45) hx hb dX0_coolestMember_26 (by decide) (fun c_21 => ?_) (fun c_21 => ?_)
            · have b_22 : ¬ (wet v k = true) := m_ite0.mp c_21
              refine lv_iinc (v := nI (k + 1)) (lv' := [(2, .int (nI (k + 1))), (0, .ref aB), (1, .int (nI j))]) hx hb dX0_coolestMember_45 hl (k := 2) rfl (m_inc _) (by decide) rfl (fun ls hl => ?_)
              refine lv_goto (tgt := 4) hx hb dX0_coolestMember_48 (by decide) ?_
              have e_23 : oi (colO v h me (k + 1)) = nI j := (by simp [colO, oi, hO, c_16, c_19, b_22])
              exact ih (k + 1) (by omega) ls (by rw [e_23]; exact lv_sub hl [1, 2, 0] rfl)
            · have b_24 : wet v k = true := m_ite1.mp c_21
              refine lv_iload_n hx hb dX0_coolestMember_29 rfl (lv_at hl 1 rfl) ?_
              refine lv_iconst (v := (-1)) hx hb dX0_coolestMember_30 (by decide) ?_
              refine lv_icmp_eq (tgt := 43) hx hb dX0_coolestMember_31 (by decide) (fun c_25 => ?_) (fun c_25 => ?_)
              · exact absurd c_25 (m_nm1 (by omega))
              · refine lv_aload_n hx hb dX0_coolestMember_34 rfl (lv_at hl 0 rfl) ?_
                refine lv_iload_n hx hb dX0_coolestMember_35 rfl (lv_at hl 1 rfl) ?_
                refine lv_iload_n hx hb dX0_coolestMember_36 rfl (lv_at hl 2 rfl) ?_
                refine c_roVi S9 (c_X0_isHotter l G cy aB aV aH aP aM N v h pl me j k (by omega) (by omega)) (cwV 2 hts gX0_coolestMember_X0_isHotter rfl rfl rfl (by decide +kernel) ⟨Nat.le_of_ble_eq_true rfl, Nat.le_of_ble_eq_true rfl⟩) PB.blind (va_recv hK.1 hP (ci := 4) (q0 := 0) rfl rfl) (PB.at hK (m_Ppart hP [0, 1, 2, 3, 4] rfl)) rfl hl.1 rfl (Nat.le_of_ble_eq_true rfl) ⟨Nat.zero_le _, Nat.zero_le _⟩ dX0_coolestMember_37 ?_
                refine lv_if_eq (tgt := 45) hx hb dX0_coolestMember_40 (by decide) (fun c_26 => ?_) (fun c_26 => ?_)
                · have b_27 : ¬ (hotter v h j k = true) := m_ite0.mp c_26
                  refine lv_iinc (v := nI (k + 1)) (lv' := [(2, .int (nI (k + 1))), (0, .ref aB), (1, .int (nI j))]) hx hb dX0_coolestMember_45 hl (k := 2) rfl (m_inc _) (by decide) rfl (fun ls hl => ?_)
                  refine lv_goto (tgt := 4) hx hb dX0_coolestMember_48 (by decide) ?_
                  have e_28 : oi (colO v h me (k + 1)) = nI j := (by simp [colO, oi, hO, c_16, c_19, b_24, c_25, b_27])
                  exact ih (k + 1) (by omega) ls (by rw [e_28]; exact lv_sub hl [1, 2, 0] rfl)
                · have b_29 : hotter v h j k = true := m_ite1.mp c_26
                  refine lv_iload_n hx hb dX0_coolestMember_43 rfl (lv_at hl 2 rfl) ?_
                  refine lv_istore_n (lv' := [(1, .int (nI k)), (0, .ref aB), (2, .int (nI k))]) hx hb dX0_coolestMember_44 rfl hl (by decide) rfl (fun ls hl => ?_)
                  refine lv_iinc (v := nI (k + 1)) (lv' := [(2, .int (nI (k + 1))), (1, .int (nI k)), (0, .ref aB)]) hx hb dX0_coolestMember_45 hl (k := 2) rfl (m_inc _) (by decide) rfl (fun ls hl => ?_)
                  refine lv_goto (tgt := 4) hx hb dX0_coolestMember_48 (by decide) ?_
                  have e_30 : oi (colO v h me (k + 1)) = nI k := (by simp [colO, oi, hO, c_16, c_19, b_24, c_25, b_29])
                  exact ih (k + 1) (by omega) ls (by rw [e_30]; exact lv_sub hl [2, 1, 0] rfl)
  exact L_1 N 0 (by omega) ls (lv_sub hl [2, 1, 0] rfl)

set_option maxRecDepth 100000 in
set_option maxHeartbeats 1000000 in
theorem c_X0_unitsToShare (l : Launch) (G : va_G) (cy : Nat → ClassId) (aB aV aH aP aM N : Nat) (v h pl me : Nat → Int32) (a b : Nat) (hN : N ≤ 5) (ha : a < N) (hb2 : b < N) : RO l yX0_unitsToShare wsX0_unitsToShare { frames := 1, cells := 0, slots := 0, locals := 21 } (PB G cy [(aB, .inr (4, [.int (nI N), .ref aV, .ref aH, .ref aP, .ref aM])), (aV, .inl (cy 2, 5, .inl v)), (aH, .inl (cy 2, 5, .inl h)), (aP, .inl (cy 3, 5, .inl pl)), (aM, .inl (cy 3, 5, .inl me))]) [.ref aB, .int (nI a), .int (nI b)] (some (.int (units v h a b))) := by
  refine RO.ofW (cc := cX0_unitsToShare) (maxL := 5) (ret := (some .int)) (by decide) rfl (Nat.le_of_ble_eq_true rfl) ?_
  intro p e s m below meth c S9 hr hlocks hPB ls hl
  obtain ⟨hx, hb, hml, hown, hts⟩ := id S9
  obtain ⟨hP, hK⟩ := hPB
  have hl : lv_has ls 5 [(0, .ref aB), (1, .int (nI a)), (2, .int (nI b))] := hl
  have hi4 : ∀ w ∈ wsX00, w ∈ wsX0_unitsToShare := by decide +kernel
  have hf15 := hts (.fieldLink RX0 15 "BathLeague$Baths" "volume" "[I") (by decide +kernel)
  have hf19 := hts (.fieldLink RX0 19 "BathLeague$Baths" "heat" "[I") (by decide +kernel)
  have hmm1 := hts (.methodLink RX0 44 Lib.Math.min.name) (by decide +kernel)
  have hmm2 := hts (.static Lib.Math.min.name) (by decide +kernel)
  have hmm3 := hts (.initialized "java/lang/Math") (by decide +kernel)
  have hmm4 := hts (.code Lib.Math.min.name Lib.Math.min.code 2 (some .int)) (by decide +kernel)
  refine lv_aload_n hx hb dX0_unitsToShare_0 rfl (lv_at hl 0 rfl) ?_
  refine lv_iload_n hx hb dX0_unitsToShare_1 rfl (lv_at hl 1 rfl) ?_
  refine c_roVi S9 (c_X0_has l G cy aB aV aH aP aM N v h pl me (nI a)) (cwV 1 hts gX0_unitsToShare_X0_has rfl rfl rfl (by decide +kernel) ⟨Nat.le_of_ble_eq_true rfl, Nat.le_of_ble_eq_true rfl⟩) PB.blind (va_recv hK.1 hP (ci := 4) (q0 := 0) rfl rfl) (PB.at hK (m_Ppart hP [0, 1, 2, 3, 4] rfl)) rfl hl.1 rfl (Nat.le_of_ble_eq_true rfl) ⟨Nat.zero_le _, Nat.zero_le _⟩ dX0_unitsToShare_2 ?_
  refine lv_if_eq (tgt := 16) hx hb dX0_unitsToShare_5 (by decide) (fun c_1 => ?_) (fun c_1 => ?_)
  · exact absurd c_1 (m_has (by omega) (by omega))
  · have b_2 : inI (nI a) (nI N) = true := m_ite1.mp c_1
    refine lv_aload_n hx hb dX0_unitsToShare_8 rfl (lv_at hl 0 rfl) ?_
    refine lv_iload_n hx hb dX0_unitsToShare_9 rfl (lv_at hl 2 rfl) ?_
    refine c_roVi S9 (c_X0_has l G cy aB aV aH aP aM N v h pl me (nI b)) (cwV 1 hts gX0_unitsToShare_X0_has rfl rfl rfl (by decide +kernel) ⟨Nat.le_of_ble_eq_true rfl, Nat.le_of_ble_eq_true rfl⟩) PB.blind (va_recv hK.1 hP (ci := 4) (q0 := 0) rfl rfl) (PB.at hK (m_Ppart hP [0, 1, 2, 3, 4] rfl)) rfl hl.1 rfl (Nat.le_of_ble_eq_true rfl) ⟨Nat.zero_le _, Nat.zero_le _⟩ dX0_unitsToShare_10 ?_
    refine lv_if_ne (tgt := 18) hx hb dX0_unitsToShare_13 (by decide) (fun c_3 => ?_) (fun c_3 => ?_)
    · have b_4 : inI (nI b) (nI N) = true := m_ite1.mp c_3
      refine lv_aload_n hx hb dX0_unitsToShare_18 rfl (lv_at hl 0 rfl) ?_
      refine va_get (D := G) (ci := 4) (v := .ref aV) (C := RX0) (T := TX0) (N := 5) hx hb hts hi4 hown hK.1 hP 0 rfl rfl 1 (by decide) hf15 (fun _ h9 => h9) rfl dX0_unitsToShare_19 ?_
      refine lv_iload_n hx hb dX0_unitsToShare_22 rfl (lv_at hl 1 rfl) ?_
      refine m_iald hx hb hK hP 1 (k := a) rfl rfl (by omega) (Nat.le_of_ble_eq_true rfl) dX0_unitsToShare_23 ?_
      refine lv_aload_n hx hb dX0_unitsToShare_24 rfl (lv_at hl 0 rfl) ?_
      refine va_get (D := G) (ci := 4) (v := .ref aV) (C := RX0) (T := TX0) (N := 5) hx hb hts hi4 hown hK.1 hP 0 rfl rfl 1 (by decide) hf15 (fun _ h9 => h9) rfl dX0_unitsToShare_25 ?_
      refine lv_iload_n hx hb dX0_unitsToShare_28 rfl (lv_at hl 2 rfl) ?_
      refine m_iald hx hb hK hP 1 (k := b) rfl rfl (by omega) (Nat.le_of_ble_eq_true rfl) dX0_unitsToShare_29 ?_
      refine lv_iadd hx hb dX0_unitsToShare_30 ?_
      refine lv_istore_n (lv' := [(3, .int ((v a) + (v b))), (0, .ref aB), (1, .int (nI a)), (2, .int (nI b))]) hx hb dX0_unitsToShare_31 rfl hl (by decide) rfl (fun ls hl => ?_)
      refine lv_iload_n hx hb dX0_unitsToShare_32 rfl (lv_at hl 0 rfl) ?_
      refine lv_if_ne (tgt := 38) hx hb dX0_unitsToShare_33 (by decide) (fun c_5 => ?_) (fun c_5 => ?_)
      · refine lv_aload_n hx hb dX0_unitsToShare_38 rfl (lv_at hl 1 rfl) ?_
        refine va_get (D := G) (ci := 4) (v := .ref aH) (C := RX0) (T := TX0) (N := 5) hx hb hts hi4 hown hK.1 hP 0 rfl rfl 2 (by decide) hf19 (fun _ h9 => h9) rfl dX0_unitsToShare_39 ?_
        refine lv_iload_n hx hb dX0_unitsToShare_42 rfl (lv_at hl 2 rfl) ?_
        refine m_iald hx hb hK hP 2 (k := a) rfl rfl (by omega) (Nat.le_of_ble_eq_true rfl) dX0_unitsToShare_43 ?_
        refine lv_aload_n hx hb dX0_unitsToShare_44 rfl (lv_at hl 1 rfl) ?_
        refine va_get (D := G) (ci := 4) (v := .ref aV) (C := RX0) (T := TX0) (N := 5) hx hb hts hi4 hown hK.1 hP 0 rfl rfl 1 (by decide) hf15 (fun _ h9 => h9) rfl dX0_unitsToShare_45 ?_
        refine lv_iload_n hx hb dX0_unitsToShare_48 rfl (lv_at hl 3 rfl) ?_
        refine m_iald hx hb hK hP 1 (k := b) rfl rfl (by omega) (Nat.le_of_ble_eq_true rfl) dX0_unitsToShare_49 ?_
        refine lv_imul hx hb dX0_unitsToShare_50 ?_
        refine lv_aload_n hx hb dX0_unitsToShare_51 rfl (lv_at hl 1 rfl) ?_
        refine va_get (D := G) (ci := 4) (v := .ref aH) (C := RX0) (T := TX0) (N := 5) hx hb hts hi4 hown hK.1 hP 0 rfl rfl 2 (by decide) hf19 (fun _ h9 => h9) rfl dX0_unitsToShare_52 ?_
        refine lv_iload_n hx hb dX0_unitsToShare_55 rfl (lv_at hl 3 rfl) ?_
        refine m_iald hx hb hK hP 2 (k := b) rfl rfl (by omega) (Nat.le_of_ble_eq_true rfl) dX0_unitsToShare_56 ?_
        refine lv_aload_n hx hb dX0_unitsToShare_57 rfl (lv_at hl 1 rfl) ?_
        refine va_get (D := G) (ci := 4) (v := .ref aV) (C := RX0) (T := TX0) (N := 5) hx hb hts hi4 hown hK.1 hP 0 rfl rfl 1 (by decide) hf15 (fun _ h9 => h9) rfl dX0_unitsToShare_58 ?_
        refine lv_iload_n hx hb dX0_unitsToShare_61 rfl (lv_at hl 2 rfl) ?_
        refine m_iald hx hb hK hP 1 (k := a) rfl rfl (by omega) (Nat.le_of_ble_eq_true rfl) dX0_unitsToShare_62 ?_
        refine lv_imul hx hb dX0_unitsToShare_63 ?_
        refine lv_isub hx hb dX0_unitsToShare_64 ?_
        refine lv_iload_n hx hb dX0_unitsToShare_65 rfl (lv_at hl 0 rfl) ?_
        refine lv_idiv hx hb dX0_unitsToShare_66 c_5 ?_
        refine lv_istore (lv' := [(4, .int ((((h a) * (v b)) - ((h b) * (v a))) / ((v a) + (v b)))), (3, .int ((v a) + (v b))), (0, .ref aB), (1, .int (nI a)), (2, .int (nI b))]) hx hb dX0_unitsToShare_67 hl (by decide) rfl (fun ls hl => ?_)
        refine lv_bipush (v := 20) hx hb dX0_unitsToShare_69 (by decide) ?_
        refine lv_iload hx hb dX0_unitsToShare_71 (lv_at hl 0 rfl) ?_
        refine va_mmin hx hb (hml.trans hl.1.symm) hown hmm1 hmm2 hmm3 hmm4 (by decide) (Nat.le_of_ble_eq_true rfl) (Nat.zero_le _) (Nat.zero_le _) dX0_unitsToShare_73 ?_
        exact ro_iret hx hb hr hlocks (by simp [units, b_2, b_4, c_5]) dX0_unitsToShare_76
      · refine lv_iconst (v := 0) hx hb dX0_unitsToShare_36 (by decide) ?_
        exact ro_iret hx hb hr hlocks (by simp [units, b_2, b_4, c_5]) dX0_unitsToShare_37
    · exact absurd c_3 (m_has (by omega) (by omega))

set_option maxRecDepth 100000 in
set_option maxHeartbeats 1000000 in
theorem c_X0_ranksBefore (l : Launch) (G : va_G) (cy : Nat → ClassId) (aB aV aH aP aM N : Nat) (v h pl me : Nat → Int32) (a b : Nat) (ha : a < 5) (hb2 : b < 5) : RO l yX0_ranksBefore wsX0_ranksBefore { frames := 1, cells := 0, slots := 0, locals := 22 } (PB G cy [(aB, .inr (4, [.int (nI N), .ref aV, .ref aH, .ref aP, .ref aM])), (aV, .inl (cy 2, 5, .inl v)), (aH, .inl (cy 2, 5, .inl h)), (aP, .inl (cy 3, 5, .inl pl)), (aM, .inl (cy 3, 5, .inl me))]) [.ref aB, .int (nI a), .int (nI b)] (some (.int (if rkB v h a b = true then 1 else 0))) := by
  refine RO.ofW (cc := cX0_ranksBefore) (maxL := 3) (ret := (some .boolean)) (by decide) rfl (Nat.le_of_ble_eq_true rfl) ?_
  intro p e s m below meth c S9 hr hlocks hPB ls hl
  obtain ⟨hx, hb, hml, hown, hts⟩ := id S9
  obtain ⟨hP, hK⟩ := hPB
  have hl : lv_has ls 3 [(0, .ref aB), (1, .int (nI a)), (2, .int (nI b))] := hl
  refine lv_aload_n hx hb dX0_ranksBefore_0 rfl (lv_at hl 0 rfl) ?_
  refine lv_iload_n hx hb dX0_ranksBefore_1 rfl (lv_at hl 1 rfl) ?_
  refine c_roVi S9 (c_X0_hasWater l G cy aB aV aH aP aM N v h pl me a (by omega)) (cwV 1 hts gX0_ranksBefore_X0_hasWater rfl rfl rfl (by decide +kernel) ⟨Nat.le_of_ble_eq_true rfl, Nat.le_of_ble_eq_true rfl⟩) PB.blind (va_recv hK.1 hP (ci := 4) (q0 := 0) rfl rfl) (PB.at hK (m_Ppart hP [0, 1, 2, 3, 4] rfl)) rfl hl.1 rfl (Nat.le_of_ble_eq_true rfl) ⟨Nat.zero_le _, Nat.zero_le _⟩ dX0_ranksBefore_2 ?_
  refine lv_if_eq (tgt := 16) hx hb dX0_ranksBefore_5 (by decide) (fun c_1 => ?_) (fun c_1 => ?_)
  · have b_2 : ¬ (wet v a = true) := m_ite0.mp c_1
    refine lv_aload_n hx hb dX0_ranksBefore_16 rfl (lv_at hl 0 rfl) ?_
    refine lv_iload_n hx hb dX0_ranksBefore_17 rfl (lv_at hl 1 rfl) ?_
    refine c_roVi S9 (c_X0_hasWater l G cy aB aV aH aP aM N v h pl me a (by omega)) (cwV 1 hts gX0_ranksBefore_X0_hasWater rfl rfl rfl (by decide +kernel) ⟨Nat.le_of_ble_eq_true rfl, Nat.le_of_ble_eq_true rfl⟩) PB.blind (va_recv hK.1 hP (ci := 4) (q0 := 0) rfl rfl) (PB.at hK (m_Ppart hP [0, 1, 2, 3, 4] rfl)) rfl hl.1 rfl (Nat.le_of_ble_eq_true rfl) ⟨Nat.zero_le _, Nat.zero_le _⟩ dX0_ranksBefore_18 ?_
    refine lv_t0 (if_neg b_2) ?_
    refine lv_aload_n hx hb dX0_ranksBefore_21 rfl (lv_at hl 0 rfl) ?_
    refine lv_iload_n hx hb dX0_ranksBefore_22 rfl (lv_at hl 2 rfl) ?_
    refine c_roVi S9 (c_X0_hasWater l G cy aB aV aH aP aM N v h pl me b (by omega)) (cwV 1 hts gX0_ranksBefore_X0_hasWater rfl rfl rfl (by decide +kernel) ⟨Nat.le_of_ble_eq_true rfl, Nat.le_of_ble_eq_true rfl⟩) PB.blind (va_recv hK.1 hP (ci := 4) (q0 := 0) rfl rfl) (PB.at hK (m_Ppart hP [0, 1, 2, 3, 4] rfl)) rfl hl.1 rfl (Nat.le_of_ble_eq_true rfl) ⟨Nat.zero_le _, Nat.zero_le _⟩ dX0_ranksBefore_23 ?_
    by_cases b_3 : wet v b = true
    · refine lv_t0 (if_pos b_3) ?_
      refine lv_icmp_ne (tgt := 42) hx hb dX0_ranksBefore_26 (by decide) (fun c_4 => ?_) (fun c_4 => ?_)
      · refine lv_aload_n hx hb dX0_ranksBefore_42 rfl (lv_at hl 0 rfl) ?_
        refine lv_iload_n hx hb dX0_ranksBefore_43 rfl (lv_at hl 1 rfl) ?_
        refine c_roVi S9 (c_X0_hasWater l G cy aB aV aH aP aM N v h pl me a (by omega)) (cwV 1 hts gX0_ranksBefore_X0_hasWater rfl rfl rfl (by decide +kernel) ⟨Nat.le_of_ble_eq_true rfl, Nat.le_of_ble_eq_true rfl⟩) PB.blind (va_recv hK.1 hP (ci := 4) (q0 := 0) rfl rfl) (PB.at hK (m_Ppart hP [0, 1, 2, 3, 4] rfl)) rfl hl.1 rfl (Nat.le_of_ble_eq_true rfl) ⟨Nat.zero_le _, Nat.zero_le _⟩ dX0_ranksBefore_44 ?_
        refine lv_t0 (if_neg b_2) ?_
        exact ro_zret hx hb hr hlocks (by first | rfl | (split <;> rfl)) (by simp [rkB, b_2, b_3]) dX0_ranksBefore_47
      · exact absurd c_4 (by decide)
    · refine lv_t0 (if_neg b_3) ?_
      refine lv_icmp_ne (tgt := 42) hx hb dX0_ranksBefore_26 (by decide) (fun c_5 => ?_) (fun c_5 => ?_)
      · exact absurd c_5 (by decide)
      · refine lv_iload_n hx hb dX0_ranksBefore_29 rfl (lv_at hl 1 rfl) ?_
        refine lv_iload_n hx hb dX0_ranksBefore_30 rfl (lv_at hl 2 rfl) ?_
        refine lv_icmp_ge (tgt := 38) hx hb dX0_ranksBefore_31 (by decide) (fun c_6 => ?_) (fun c_6 => ?_)
        · have k_7 : b ≤ a := (m_leN (a := b) (b := a) rfl rfl (by omega) (by omega)).mp c_6
          have k_7' : ¬ (a < b) := by omega
          refine lv_iconst (v := 0) hx hb dX0_ranksBefore_38 (by decide) ?_
          refine lv_goto (tgt := 47) hx hb dX0_ranksBefore_39 (by decide) ?_
          exact ro_zret hx hb hr hlocks (by first | rfl | (split <;> rfl)) (by simp [rkB, b_2, b_3, c_6, k_7', k_7]) dX0_ranksBefore_47
        · have k_8 : ¬ (b ≤ a) := fun z => c_6 ((m_leN (a := b) (b := a) rfl rfl (by omega) (by omega)).mpr z)
          have k_8' : a < b := by omega
          refine lv_iconst (v := 1) hx hb dX0_ranksBefore_34 (by decide) ?_
          refine lv_goto (tgt := 47) hx hb dX0_ranksBefore_35 (by decide) ?_
          exact ro_zret hx hb hr hlocks (by first | rfl | (split <;> rfl)) (by simp [rkB, b_2, b_3, c_6, k_8', k_8]) dX0_ranksBefore_47
  · have b_9 : wet v a = true := m_ite1.mp c_1
    refine lv_aload_n hx hb dX0_ranksBefore_8 rfl (lv_at hl 0 rfl) ?_
    refine lv_iload_n hx hb dX0_ranksBefore_9 rfl (lv_at hl 2 rfl) ?_
    refine c_roVi S9 (c_X0_hasWater l G cy aB aV aH aP aM N v h pl me b (by omega)) (cwV 1 hts gX0_ranksBefore_X0_hasWater rfl rfl rfl (by decide +kernel) ⟨Nat.le_of_ble_eq_true rfl, Nat.le_of_ble_eq_true rfl⟩) PB.blind (va_recv hK.1 hP (ci := 4) (q0 := 0) rfl rfl) (PB.at hK (m_Ppart hP [0, 1, 2, 3, 4] rfl)) rfl hl.1 rfl (Nat.le_of_ble_eq_true rfl) ⟨Nat.zero_le _, Nat.zero_le _⟩ dX0_ranksBefore_10 ?_
    refine lv_if_ne (tgt := 48) hx hb dX0_ranksBefore_13 (by decide) (fun c_10 => ?_) (fun c_10 => ?_)
    · have b_11 : wet v b = true := m_ite1.mp c_10
      refine lv_aload_n hx hb dX0_ranksBefore_48 rfl (lv_at hl 0 rfl) ?_
      refine lv_iload_n hx hb dX0_ranksBefore_49 rfl (lv_at hl 1 rfl) ?_
      refine lv_iload_n hx hb dX0_ranksBefore_50 rfl (lv_at hl 2 rfl) ?_
      refine c_roVi S9 (c_X0_isHotter l G cy aB aV aH aP aM N v h pl me a b (by omega) (by omega)) (cwV 2 hts gX0_ranksBefore_X0_isHotter rfl rfl rfl (by decide +kernel) ⟨Nat.le_of_ble_eq_true rfl, Nat.le_of_ble_eq_true rfl⟩) PB.blind (va_recv hK.1 hP (ci := 4) (q0 := 0) rfl rfl) (PB.at hK (m_Ppart hP [0, 1, 2, 3, 4] rfl)) rfl hl.1 rfl (Nat.le_of_ble_eq_true rfl) ⟨Nat.zero_le _, Nat.zero_le _⟩ dX0_ranksBefore_51 ?_
      refine lv_if_ne (tgt := 71) hx hb dX0_ranksBefore_54 (by decide) (fun c_12 => ?_) (fun c_12 => ?_)
      · have b_13 : hotter v h a b = true := m_ite1.mp c_12
        refine lv_iconst (v := 1) hx hb dX0_ranksBefore_71 (by decide) ?_
        refine lv_goto (tgt := 76) hx hb dX0_ranksBefore_72 (by decide) ?_
        exact ro_zret hx hb hr hlocks (by first | rfl | (split <;> rfl)) (by simp [rkB, b_9, b_11, b_13]) dX0_ranksBefore_76
      · have b_14 : ¬ (hotter v h a b = true) := m_ite0.mp c_12
        refine lv_iload_n hx hb dX0_ranksBefore_57 rfl (lv_at hl 1 rfl) ?_
        refine lv_iload_n hx hb dX0_ranksBefore_58 rfl (lv_at hl 2 rfl) ?_
        refine lv_icmp_ge (tgt := 75) hx hb dX0_ranksBefore_59 (by decide) (fun c_15 => ?_) (fun c_15 => ?_)
        · have k_16 : b ≤ a := (m_leN (a := b) (b := a) rfl rfl (by omega) (by omega)).mp c_15
          have k_16' : ¬ (a < b) := by omega
          refine lv_iconst (v := 0) hx hb dX0_ranksBefore_75 (by decide) ?_
          exact ro_zret hx hb hr hlocks (by first | rfl | (split <;> rfl)) (by simp [rkB, b_9, b_11, b_14, c_15, k_16', k_16]) dX0_ranksBefore_76
        · have k_17 : ¬ (b ≤ a) := fun z => c_15 ((m_leN (a := b) (b := a) rfl rfl (by omega) (by omega)).mpr z)
          have k_17' : a < b := by omega
          refine lv_aload_n hx hb dX0_ranksBefore_62 rfl (lv_at hl 0 rfl) ?_
          refine lv_iload_n hx hb dX0_ranksBefore_63 rfl (lv_at hl 2 rfl) ?_
          refine lv_iload_n hx hb dX0_ranksBefore_64 rfl (lv_at hl 1 rfl) ?_
          refine c_roVi S9 (c_X0_isHotter l G cy aB aV aH aP aM N v h pl me b a (by omega) (by omega)) (cwV 2 hts gX0_ranksBefore_X0_isHotter rfl rfl rfl (by decide +kernel) ⟨Nat.le_of_ble_eq_true rfl, Nat.le_of_ble_eq_true rfl⟩) PB.blind (va_recv hK.1 hP (ci := 4) (q0 := 0) rfl rfl) (PB.at hK (m_Ppart hP [0, 1, 2, 3, 4] rfl)) rfl hl.1 rfl (Nat.le_of_ble_eq_true rfl) ⟨Nat.zero_le _, Nat.zero_le _⟩ dX0_ranksBefore_65 ?_
          refine lv_if_ne (tgt := 75) hx hb dX0_ranksBefore_68 (by decide) (fun c_18 => ?_) (fun c_18 => ?_)
          · have b_19 : hotter v h b a = true := m_ite1.mp c_18
            refine lv_iconst (v := 0) hx hb dX0_ranksBefore_75 (by decide) ?_
            exact ro_zret hx hb hr hlocks (by first | rfl | (split <;> rfl)) (by simp [rkB, b_9, b_11, b_14, c_15, b_19, k_17', k_17]) dX0_ranksBefore_76
          · have b_20 : ¬ (hotter v h b a = true) := m_ite0.mp c_18
            refine lv_iconst (v := 1) hx hb dX0_ranksBefore_71 (by decide) ?_
            refine lv_goto (tgt := 76) hx hb dX0_ranksBefore_72 (by decide) ?_
            exact ro_zret hx hb hr hlocks (by first | rfl | (split <;> rfl)) (by simp [rkB, b_9, b_11, b_14, c_15, b_20, k_17', k_17]) dX0_ranksBefore_76
    · have b_21 : ¬ (wet v b = true) := m_ite0.mp c_10
      refine lv_aload_n hx hb dX0_ranksBefore_16 rfl (lv_at hl 0 rfl) ?_
      refine lv_iload_n hx hb dX0_ranksBefore_17 rfl (lv_at hl 1 rfl) ?_
      refine c_roVi S9 (c_X0_hasWater l G cy aB aV aH aP aM N v h pl me a (by omega)) (cwV 1 hts gX0_ranksBefore_X0_hasWater rfl rfl rfl (by decide +kernel) ⟨Nat.le_of_ble_eq_true rfl, Nat.le_of_ble_eq_true rfl⟩) PB.blind (va_recv hK.1 hP (ci := 4) (q0 := 0) rfl rfl) (PB.at hK (m_Ppart hP [0, 1, 2, 3, 4] rfl)) rfl hl.1 rfl (Nat.le_of_ble_eq_true rfl) ⟨Nat.zero_le _, Nat.zero_le _⟩ dX0_ranksBefore_18 ?_
      refine lv_t0 (if_pos b_9) ?_
      refine lv_aload_n hx hb dX0_ranksBefore_21 rfl (lv_at hl 0 rfl) ?_
      refine lv_iload_n hx hb dX0_ranksBefore_22 rfl (lv_at hl 2 rfl) ?_
      refine c_roVi S9 (c_X0_hasWater l G cy aB aV aH aP aM N v h pl me b (by omega)) (cwV 1 hts gX0_ranksBefore_X0_hasWater rfl rfl rfl (by decide +kernel) ⟨Nat.le_of_ble_eq_true rfl, Nat.le_of_ble_eq_true rfl⟩) PB.blind (va_recv hK.1 hP (ci := 4) (q0 := 0) rfl rfl) (PB.at hK (m_Ppart hP [0, 1, 2, 3, 4] rfl)) rfl hl.1 rfl (Nat.le_of_ble_eq_true rfl) ⟨Nat.zero_le _, Nat.zero_le _⟩ dX0_ranksBefore_23 ?_
      refine lv_t0 (if_neg b_21) ?_
      refine lv_icmp_ne (tgt := 42) hx hb dX0_ranksBefore_26 (by decide) (fun c_22 => ?_) (fun c_22 => ?_)
      · refine lv_aload_n hx hb dX0_ranksBefore_42 rfl (lv_at hl 0 rfl) ?_
        refine lv_iload_n hx hb dX0_ranksBefore_43 rfl (lv_at hl 1 rfl) ?_
        refine c_roVi S9 (c_X0_hasWater l G cy aB aV aH aP aM N v h pl me a (by omega)) (cwV 1 hts gX0_ranksBefore_X0_hasWater rfl rfl rfl (by decide +kernel) ⟨Nat.le_of_ble_eq_true rfl, Nat.le_of_ble_eq_true rfl⟩) PB.blind (va_recv hK.1 hP (ci := 4) (q0 := 0) rfl rfl) (PB.at hK (m_Ppart hP [0, 1, 2, 3, 4] rfl)) rfl hl.1 rfl (Nat.le_of_ble_eq_true rfl) ⟨Nat.zero_le _, Nat.zero_le _⟩ dX0_ranksBefore_44 ?_
        refine lv_t0 (if_pos b_9) ?_
        exact ro_zret hx hb hr hlocks (by first | rfl | (split <;> rfl)) (by simp [rkB, b_9, b_21]) dX0_ranksBefore_47
      · exact absurd c_22 (by decide)

set_option maxRecDepth 100000 in
set_option maxHeartbeats 1000000 in
theorem c_X0_rankOf (l : Launch) (G : va_G) (cy : Nat → ClassId) (aB aV aH aP aM N : Nat) (v h pl me : Nat → Int32) (b : Nat) (hN : N ≤ 5) (hb2 : b < N) : RO l yX0_rankOf wsX0_rankOf { frames := 2, cells := 0, slots := 0, locals := 44 } (PB G cy [(aB, .inr (4, [.int (nI N), .ref aV, .ref aH, .ref aP, .ref aM])), (aV, .inl (cy 2, 5, .inl v)), (aH, .inl (cy 2, 5, .inl h)), (aP, .inl (cy 3, 5, .inl pl)), (aM, .inl (cy 3, 5, .inl me))]) [.ref aB, .int (nI b)] (some (.int (rkN v h b N))) := by
  refine RO.ofW (cc := cX0_rankOf) (maxL := 4) (ret := (some .int)) (by decide) rfl (Nat.le_of_ble_eq_true rfl) ?_
  intro p e s m below meth c S9 hr hlocks hPB ls hl
  obtain ⟨hx, hb, hml, hown, hts⟩ := id S9
  obtain ⟨hP, hK⟩ := hPB
  have hl : lv_has ls 4 [(0, .ref aB), (1, .int (nI b))] := hl
  have hi4 : ∀ w ∈ wsX00, w ∈ wsX0_rankOf := by decide +kernel
  have hf9 := hts (.fieldLink RX0 9 "BathLeague$Baths" "count" "I") (by decide +kernel)
  refine lv_iconst (v := 0) hx hb dX0_rankOf_0 (by decide) ?_
  refine lv_istore_n (lv' := [(2, .int 0), (0, .ref aB), (1, .int (nI b))]) hx hb dX0_rankOf_1 rfl hl (by decide) rfl (fun ls hl => ?_)
  refine lv_iconst (v := 0) hx hb dX0_rankOf_2 (by decide) ?_
  refine lv_istore_n (lv' := [(3, .int 0), (2, .int 0), (0, .ref aB), (1, .int (nI b))]) hx hb dX0_rankOf_3 rfl hl (by decide) rfl (fun ls hl => ?_)
  have L_1 : ∀ (d k : Nat), k + d = N → ∀ ls : Array Slot, lv_has ls 4 [(0, .ref aB), (1, .int (nI b)), (2, .int (rkN v h b k)), (3, .int (nI k))] → W p l e ({ frames := 2, cells := 0, slots := 0, locals := 44 } : Room) s m ([.ref aB, .int (nI b)] : List Value).toArray below meth c s.heap [] 0 0 (roZ below ([.ref aB, .int (nI b)] : List Value).toArray s (some (.int (rkN v h b N)))) (F0 m 4 ls []) := by
    intro d
    induction d with
    | zero =>
      intro k hkk ls hl
      refine lv_iload_n hx hb dX0_rankOf_4 rfl (lv_at hl 3 rfl) ?_
      refine lv_aload_n hx hb dX0_rankOf_5 rfl (lv_at hl 0 rfl) ?_
      refine va_get (D := G) (ci := 4) (v := .int (nI N)) (C := RX0) (T := TX0) (N := 5) hx hb hts hi4 hown hK.1 hP 0 rfl rfl 0 (by decide) hf9 (fun _ h9 => h9) rfl dX0_rankOf_6 ?_
      refine lv_icmp_ge (tgt := 30) hx hb dX0_rankOf_9 (by decide) (fun c_2 => ?_) (fun c_2 => ?_)
      · have k_3 : N ≤ k := (m_leN (a := N) (b := k) rfl rfl (by omega) (by omega)).mp c_2
        have k_3' : ¬ (k < N) := by omega
        refine lv_iload_n hx hb dX0_rankOf_30 rfl (lv_at hl 2 rfl) ?_
        exact ro_iret hx hb hr hlocks (by rw [show k = N by omega]) dX0_rankOf_31
      · have k_4 : ¬ (N ≤ k) := fun z => c_2 ((m_leN (a := N) (b := k) rfl rfl (by omega) (by omega)).mpr z)
        have k_4' : k < N := by omega
        exfalso; omega
    | succ d ih =>
      intro k hkk ls hl
      refine lv_iload_n hx hb dX0_rankOf_4 rfl (lv_at hl 3 rfl) ?_
      refine lv_aload_n hx hb dX0_rankOf_5 rfl (lv_at hl 0 rfl) ?_
      refine va_get (D := G) (ci := 4) (v := .int (nI N)) (C := RX0) (T := TX0) (N := 5) hx hb hts hi4 hown hK.1 hP 0 rfl rfl 0 (by decide) hf9 (fun _ h9 => h9) rfl dX0_rankOf_6 ?_
      refine lv_icmp_ge (tgt := 30) hx hb dX0_rankOf_9 (by decide) (fun c_5 => ?_) (fun c_5 => ?_)
      · have k_6 : N ≤ k := (m_leN (a := N) (b := k) rfl rfl (by omega) (by omega)).mp c_5
        have k_6' : ¬ (k < N) := by omega
        exfalso; omega
      · have k_7 : ¬ (N ≤ k) := fun z => c_5 ((m_leN (a := N) (b := k) rfl rfl (by omega) (by omega)).mpr z)
        have k_7' : k < N := by omega
        refine lv_aload_n hx hb dX0_rankOf_12 rfl (lv_at hl 0 rfl) ?_
        refine lv_iload_n hx hb dX0_rankOf_13 rfl (lv_at hl 3 rfl) ?_
        refine lv_iload_n hx hb dX0_rankOf_14 rfl (lv_at hl 1 rfl) ?_
        refine c_roVi S9 (c_X0_ranksBefore l G cy aB aV aH aP aM N v h pl me k b (by omega) (by omega)) (cwV 2 hts gX0_rankOf_X0_ranksBefore rfl rfl rfl (by decide +kernel) ⟨Nat.le_of_ble_eq_true rfl, Nat.le_of_ble_eq_true rfl⟩) PB.blind (va_recv hK.1 hP (ci := 4) (q0 := 0) rfl rfl) (PB.at hK (m_Ppart hP [0, 1, 2, 3, 4] rfl)) rfl hl.1 rfl (Nat.le_of_ble_eq_true rfl) ⟨Nat.zero_le _, Nat.zero_le _⟩ dX0_rankOf_15 ?_
        refine lv_if_eq (tgt := 24) hx hb dX0_rankOf_18 (by decide) (fun c_8 => ?_) (fun c_8 => ?_)
        · have b_9 : ¬ (rkB v h k b = true) := m_ite0.mp c_8
          refine lv_iinc (v := nI (k + 1)) (lv' := [(3, .int (nI (k + 1))), (0, .ref aB), (1, .int (nI b)), (2, .int (rkN v h b k))]) hx hb dX0_rankOf_24 hl (k := 3) rfl (m_inc _) (by decide) rfl (fun ls hl => ?_)
          refine lv_goto (tgt := 4) hx hb dX0_rankOf_27 (by decide) ?_
          have e_10 : rkN v h b (k + 1) = rkN v h b k := (by simp [rkN, c_5, b_9])
          exact ih (k + 1) (by omega) ls (by rw [e_10]; exact lv_sub hl [1, 2, 3, 0] rfl)
        · have b_11 : rkB v h k b = true := m_ite1.mp c_8
          refine lv_iinc (v := (rkN v h b k) + 1) (lv' := [(2, .int ((rkN v h b k) + 1)), (0, .ref aB), (1, .int (nI b)), (3, .int (nI k))]) hx hb dX0_rankOf_21 hl (k := 2) rfl rfl (by decide) rfl (fun ls hl => ?_)
          refine lv_iinc (v := nI (k + 1)) (lv' := [(3, .int (nI (k + 1))), (2, .int ((rkN v h b k) + 1)), (0, .ref aB), (1, .int (nI b))]) hx hb dX0_rankOf_24 hl (k := 3) rfl (m_inc _) (by decide) rfl (fun ls hl => ?_)
          refine lv_goto (tgt := 4) hx hb dX0_rankOf_27 (by decide) ?_
          have e_12 : rkN v h b (k + 1) = (rkN v h b k) + 1 := (by simp [rkN, c_5, b_11])
          exact ih (k + 1) (by omega) ls (by rw [e_12]; exact lv_sub hl [2, 3, 1, 0] rfl)
  exact L_1 N 0 (by omega) ls (lv_sub hl [2, 3, 1, 0] rfl)

set_option maxRecDepth 100000 in
set_option maxHeartbeats 1000000 in
theorem c_X0_atRank (l : Launch) (G : va_G) (cy : Nat → ClassId) (aB aV aH aP aM N : Nat) (v h pl me : Nat → Int32) (i : Int32) (hN : N ≤ 5) : RO l yX0_atRank wsX0_atRank { frames := 3, cells := 0, slots := 0, locals := 67 } (PB G cy [(aB, .inr (4, [.int (nI N), .ref aV, .ref aH, .ref aP, .ref aM])), (aV, .inl (cy 2, 5, .inl v)), (aH, .inl (cy 2, 5, .inl h)), (aP, .inl (cy 3, 5, .inl pl)), (aM, .inl (cy 3, 5, .inl me))]) [.ref aB, .int i] (some (.int (atF (fun j => rkN v h j N) i 0 N))) := by
  refine RO.ofW (cc := cX0_atRank) (maxL := 3) (ret := (some .int)) (by decide) rfl (Nat.le_of_ble_eq_true rfl) ?_
  intro p e s m below meth c S9 hr hlocks hPB ls hl
  obtain ⟨hx, hb, hml, hown, hts⟩ := id S9
  obtain ⟨hP, hK⟩ := hPB
  have hl : lv_has ls 3 [(0, .ref aB), (1, .int i)] := hl
  have hi4 : ∀ w ∈ wsX00, w ∈ wsX0_atRank := by decide +kernel
  have hf9 := hts (.fieldLink RX0 9 "BathLeague$Baths" "count" "I") (by decide +kernel)
  refine lv_iconst (v := 0) hx hb dX0_atRank_0 (by decide) ?_
  refine lv_istore_n (lv' := [(2, .int 0), (0, .ref aB), (1, .int i)]) hx hb dX0_atRank_1 rfl hl (by decide) rfl (fun ls hl => ?_)
  have L_1 : ∀ (d k : Nat), k + d = N → (atF (fun j => rkN v h j N) i k d = atF (fun j => rkN v h j N) i 0 N) → ∀ ls : Array Slot, lv_has ls 3 [(0, .ref aB), (1, .int i), (2, .int (nI k))] → W p l e ({ frames := 3, cells := 0, slots := 0, locals := 67 } : Room) s m ([.ref aB, .int i] : List Value).toArray below meth c s.heap [] 0 0 (roZ below ([.ref aB, .int i] : List Value).toArray s (some (.int (atF (fun j => rkN v h j N) i 0 N)))) (F0 m 2 ls []) := by
    intro d
    induction d with
    | zero =>
      intro k hkk hat ls hl
      refine lv_iload_n hx hb dX0_atRank_2 rfl (lv_at hl 2 rfl) ?_
      refine lv_aload_n hx hb dX0_atRank_3 rfl (lv_at hl 0 rfl) ?_
      refine va_get (D := G) (ci := 4) (v := .int (nI N)) (C := RX0) (T := TX0) (N := 5) hx hb hts hi4 hown hK.1 hP 0 rfl rfl 0 (by decide) hf9 (fun _ h9 => h9) rfl dX0_atRank_4 ?_
      refine lv_icmp_ge (tgt := 27) hx hb dX0_atRank_7 (by decide) (fun c_2 => ?_) (fun c_2 => ?_)
      · have k_3 : N ≤ k := (m_leN (a := N) (b := k) rfl rfl (by omega) (by omega)).mp c_2
        have k_3' : ¬ (k < N) := by omega
        refine lv_iconst (v := (-1)) hx hb dX0_atRank_27 (by decide) ?_
        exact ro_iret hx hb hr hlocks (by rw [← hat]; simp [atF, ]) dX0_atRank_28
      · have k_4 : ¬ (N ≤ k) := fun z => c_2 ((m_leN (a := N) (b := k) rfl rfl (by omega) (by omega)).mpr z)
        have k_4' : k < N := by omega
        exfalso; omega
    | succ d ih =>
      intro k hkk hat ls hl
      refine lv_iload_n hx hb dX0_atRank_2 rfl (lv_at hl 2 rfl) ?_
      refine lv_aload_n hx hb dX0_atRank_3 rfl (lv_at hl 0 rfl) ?_
      refine va_get (D := G) (ci := 4) (v := .int (nI N)) (C := RX0) (T := TX0) (N := 5) hx hb hts hi4 hown hK.1 hP 0 rfl rfl 0 (by decide) hf9 (fun _ h9 => h9) rfl dX0_atRank_4 ?_
      refine lv_icmp_ge (tgt := 27) hx hb dX0_atRank_7 (by decide) (fun c_5 => ?_) (fun c_5 => ?_)
      · have k_6 : N ≤ k := (m_leN (a := N) (b := k) rfl rfl (by omega) (by omega)).mp c_5
        have k_6' : ¬ (k < N) := by omega
        exfalso; omega
      · have k_7 : ¬ (N ≤ k) := fun z => c_5 ((m_leN (a := N) (b := k) rfl rfl (by omega) (by omega)).mpr z)
        have k_7' : k < N := by omega
        refine lv_aload_n hx hb dX0_atRank_10 rfl (lv_at hl 0 rfl) ?_
        refine lv_iload_n hx hb dX0_atRank_11 rfl (lv_at hl 2 rfl) ?_
        refine c_roVi S9 (c_X0_rankOf l G cy aB aV aH aP aM N v h pl me k (by omega) (by omega)) (cwV 1 hts gX0_atRank_X0_rankOf rfl rfl rfl (by decide +kernel) ⟨Nat.le_of_ble_eq_true rfl, Nat.le_of_ble_eq_true rfl⟩) PB.blind (va_recv hK.1 hP (ci := 4) (q0 := 0) rfl rfl) (PB.at hK (m_Ppart hP [0, 1, 2, 3, 4] rfl)) rfl hl.1 rfl (Nat.le_of_ble_eq_true rfl) ⟨Nat.zero_le _, Nat.zero_le _⟩ dX0_atRank_12 ?_
        refine lv_iload_n hx hb dX0_atRank_15 rfl (lv_at hl 1 rfl) ?_
        refine lv_icmp_ne (tgt := 21) hx hb dX0_atRank_16 (by decide) (fun c_8 => ?_) (fun c_8 => ?_)
        · refine lv_iinc (v := nI (k + 1)) (lv' := [(2, .int (nI (k + 1))), (0, .ref aB), (1, .int i)]) hx hb dX0_atRank_21 hl (k := 2) rfl (m_inc _) (by decide) rfl (fun ls hl => ?_)
          refine lv_goto (tgt := 2) hx hb dX0_atRank_24 (by decide) ?_
          exact ih (k + 1) (by omega) (by rw [← hat]; simp [atF, c_5, c_8]) ls (lv_sub hl [1, 2, 0] rfl)
        · refine lv_iload_n hx hb dX0_atRank_19 rfl (lv_at hl 2 rfl) ?_
          exact ro_iret hx hb hr hlocks (by rw [← hat]; simp [atF, c_8]) dX0_atRank_20
  exact L_1 N 0 (by omega) rfl ls (lv_sub hl [1, 2, 0] rfl)

set_option maxRecDepth 100000 in
set_option maxHeartbeats 1000000 in
theorem c_X0_copyFrom (l : Launch) (G : va_G) (cy : Nat → ClassId) (aB aV aH aP aM N : Nat) (v h pl me : Nat → Int32) (bB bV bH bP bM N2 : Nat) (v2 h2 pl2 me2 : Nat → Int32) (hz1 : bzN 5 pl2) (hz2 : bzN 5 me2) : WC l yX0_copyFrom wsX0_copyFrom { frames := 0, cells := 0, slots := 0, locals := 0 } G (PB G cy [(aB, .inr (4, [.int (nI N), .ref aV, .ref aH, .ref aP, .ref aM])), (aV, .inl (cy 2, 5, .inl v)), (aH, .inl (cy 2, 5, .inl h)), (aP, .inl (cy 3, 5, .inl pl)), (aM, .inl (cy 3, 5, .inl me)), (bB, .inr (4, [.int (nI N2), .ref bV, .ref bH, .ref bP, .ref bM])), (bV, .inl (cy 2, 5, .inl v2)), (bH, .inl (cy 2, 5, .inl h2)), (bP, .inl (cy 3, 5, .inl pl2)), (bM, .inl (cy 3, 5, .inl me2))]) [.ref aB, .ref bB] [(aB, .inr (4, [.int (nI N), .ref aV, .ref aH, .ref aP, .ref aM])), (aV, .inl (cy 2, 5, .inl v)), (aH, .inl (cy 2, 5, .inl h)), (aP, .inl (cy 3, 5, .inl pl)), (aM, .inl (cy 3, 5, .inl me)), (bB, .inr (4, [.int (nI N2), .ref bV, .ref bH, .ref bP, .ref bM])), (bV, .inl (cy 2, 5, .inl v2)), (bH, .inl (cy 2, 5, .inl h2)), (bP, .inl (cy 3, 5, .inl pl2)), (bM, .inl (cy 3, 5, .inl me2))] [(aB, .inr (4, [.int (nI N2), .ref aV, .ref aH, .ref aP, .ref aM])), (aV, .inl (cy 2, 5, .inl v2)), (aH, .inl (cy 2, 5, .inl h2)), (aP, .inl (cy 3, 5, .inl pl2)), (aM, .inl (cy 3, 5, .inl me2)), (bB, .inr (4, [.int (nI N2), .ref bV, .ref bH, .ref bP, .ref bM])), (bV, .inl (cy 2, 5, .inl v2)), (bH, .inl (cy 2, 5, .inl h2)), (bP, .inl (cy 3, 5, .inl pl2)), (bM, .inl (cy 3, 5, .inl me2))] (none) := by
  refine WC.ofW (cc := cX0_copyFrom) (maxL := 3) (ret := none) (by decide) rfl (Nat.le_of_ble_eq_true rfl) ?_
  intro p e s m below meth c S9 hr hlocks hPB hD hS ls hl
  obtain ⟨hx, hb, hml, hown, hts⟩ := id S9
  obtain ⟨hP, hK⟩ := hPB
  have hl : lv_has ls 3 [(0, .ref aB), (1, .ref bB)] := hl
  have hi4 : ∀ w ∈ wsX00, w ∈ wsX0_copyFrom := by decide +kernel
  have hf9 := hts (.fieldLink RX0 9 "BathLeague$Baths" "count" "I") (by decide +kernel)
  have hf15 := hts (.fieldLink RX0 15 "BathLeague$Baths" "volume" "[I") (by decide +kernel)
  have hf19 := hts (.fieldLink RX0 19 "BathLeague$Baths" "heat" "[I") (by decide +kernel)
  have hf22 := hts (.fieldLink RX0 22 "BathLeague$Baths" "plugged" "[Z") (by decide +kernel)
  have hf26 := hts (.fieldLink RX0 26 "BathLeague$Baths" "member" "[Z") (by decide +kernel)
  refine lv_aload_n hx hb dX0_copyFrom_0 rfl (lv_at hl 0 rfl) ?_
  refine lv_aload_n hx hb dX0_copyFrom_1 rfl (lv_at hl 1 rfl) ?_
  refine va_get (D := G) (ci := 4) (v := .int (nI N2)) (C := RX0) (T := TX0) (N := 5) hx hb hts hi4 hown hK.1 hP 5 rfl rfl 0 (by decide) hf9 (fun _ h9 => h9) rfl dX0_copyFrom_2 ?_
  refine va_put (D := G) (ci := 4) (v := .int (nI N2)) (ty := .int) (C := RX0) (T := TX0) (N := 5) hx hb hts hi4 tyX0 tyX0_ok nmX0 hown hK.1 hP hD hS 0 rfl rfl 0 (by decide) hf9 (fun _ h9 => h9) rfl (by decide +kernel) rfl rfl (Nat.le_of_ble_eq_true rfl) dX0_copyFrom_5 (fun H locs hP hD hS => ?_)
  have hP : va_P G vwCl [(aB, .inr (4, [.int (nI N2), .ref aV, .ref aH, .ref aP, .ref aM])), (aV, .inl (cy 2, 5, .inl v)), (aH, .inl (cy 2, 5, .inl h)), (aP, .inl (cy 3, 5, .inl pl)), (aM, .inl (cy 3, 5, .inl me)), (bB, .inr (4, [.int (nI N2), .ref bV, .ref bH, .ref bP, .ref bM])), (bV, .inl (cy 2, 5, .inl v2)), (bH, .inl (cy 2, 5, .inl h2)), (bP, .inl (cy 3, 5, .inl pl2)), (bM, .inl (cy 3, 5, .inl me2))] H := hP
  have hD : va_D (wA [(aB, .inr (4, [.int (nI N), .ref aV, .ref aH, .ref aP, .ref aM])), (aV, .inl (cy 2, 5, .inl v)), (aH, .inl (cy 2, 5, .inl h)), (aP, .inl (cy 3, 5, .inl pl)), (aM, .inl (cy 3, 5, .inl me)), (bB, .inr (4, [.int (nI N2), .ref bV, .ref bH, .ref bP, .ref bM])), (bV, .inl (cy 2, 5, .inl v2)), (bH, .inl (cy 2, 5, .inl h2)), (bP, .inl (cy 3, 5, .inl pl2)), (bM, .inl (cy 3, 5, .inl me2))]) [(aB, .inr (4, [.int (nI N2), .ref aV, .ref aH, .ref aP, .ref aM])), (aV, .inl (cy 2, 5, .inl v)), (aH, .inl (cy 2, 5, .inl h)), (aP, .inl (cy 3, 5, .inl pl)), (aM, .inl (cy 3, 5, .inl me)), (bB, .inr (4, [.int (nI N2), .ref bV, .ref bH, .ref bP, .ref bM])), (bV, .inl (cy 2, 5, .inl v2)), (bH, .inl (cy 2, 5, .inl h2)), (bP, .inl (cy 3, 5, .inl pl2)), (bM, .inl (cy 3, 5, .inl me2))] := hD
  refine lv_iconst (v := 0) hx hb dX0_copyFrom_8 (by decide) ?_
  refine lv_istore_n (lv' := [(2, .int 0), (0, .ref aB), (1, .ref bB)]) hx hb dX0_copyFrom_9 rfl hl (by decide) rfl (fun ls hl => ?_)
  have L_1 : ∀ (d k : Nat), k + d = 5 → ∀ (H : Heap) (locs : List Loc), va_P G vwCl [(aB, .inr (4, [.int (nI N2), .ref aV, .ref aH, .ref aP, .ref aM])), (aV, .inl (cy 2, 5, .inl (cpN v v2 k))), (aH, .inl (cy 2, 5, .inl (cpN h h2 k))), (aP, .inl (cy 3, 5, .inl (cpN pl pl2 k))), (aM, .inl (cy 3, 5, .inl (cpN me me2 k))), (bB, .inr (4, [.int (nI N2), .ref bV, .ref bH, .ref bP, .ref bM])), (bV, .inl (cy 2, 5, .inl v2)), (bH, .inl (cy 2, 5, .inl h2)), (bP, .inl (cy 3, 5, .inl pl2)), (bM, .inl (cy 3, 5, .inl me2))] H → va_D (wA [(aB, .inr (4, [.int (nI N), .ref aV, .ref aH, .ref aP, .ref aM])), (aV, .inl (cy 2, 5, .inl v)), (aH, .inl (cy 2, 5, .inl h)), (aP, .inl (cy 3, 5, .inl pl)), (aM, .inl (cy 3, 5, .inl me)), (bB, .inr (4, [.int (nI N2), .ref bV, .ref bH, .ref bP, .ref bM])), (bV, .inl (cy 2, 5, .inl v2)), (bH, .inl (cy 2, 5, .inl h2)), (bP, .inl (cy 3, 5, .inl pl2)), (bM, .inl (cy 3, 5, .inl me2))]) [(aB, .inr (4, [.int (nI N2), .ref aV, .ref aH, .ref aP, .ref aM])), (aV, .inl (cy 2, 5, .inl (cpN v v2 k))), (aH, .inl (cy 2, 5, .inl (cpN h h2 k))), (aP, .inl (cy 3, 5, .inl (cpN pl pl2 k))), (aM, .inl (cy 3, 5, .inl (cpN me me2 k))), (bB, .inr (4, [.int (nI N2), .ref bV, .ref bH, .ref bP, .ref bM])), (bV, .inl (cy 2, 5, .inl v2)), (bH, .inl (cy 2, 5, .inl h2)), (bP, .inl (cy 3, 5, .inl pl2)), (bM, .inl (cy 3, 5, .inl me2))] → va_S (wA [(aB, .inr (4, [.int (nI N), .ref aV, .ref aH, .ref aP, .ref aM])), (aV, .inl (cy 2, 5, .inl v)), (aH, .inl (cy 2, 5, .inl h)), (aP, .inl (cy 3, 5, .inl pl)), (aM, .inl (cy 3, 5, .inl me)), (bB, .inr (4, [.int (nI N2), .ref bV, .ref bH, .ref bP, .ref bM])), (bV, .inl (cy 2, 5, .inl v2)), (bH, .inl (cy 2, 5, .inl h2)), (bP, .inl (cy 3, 5, .inl pl2)), (bM, .inl (cy 3, 5, .inl me2))]) s.heap H locs → ∀ ls : Array Slot, lv_has ls 3 [(0, .ref aB), (1, .ref bB), (2, .int (nI k))] → W p l e ({ frames := 0, cells := 0, slots := 0, locals := 0 } : Room) s m ([.ref aB, .ref bB] : List Value).toArray below meth c H locs 0 0 (wcZ below ([.ref aB, .ref bB] : List Value).toArray s G [(aB, .inr (4, [.int (nI N), .ref aV, .ref aH, .ref aP, .ref aM])), (aV, .inl (cy 2, 5, .inl v)), (aH, .inl (cy 2, 5, .inl h)), (aP, .inl (cy 3, 5, .inl pl)), (aM, .inl (cy 3, 5, .inl me)), (bB, .inr (4, [.int (nI N2), .ref bV, .ref bH, .ref bP, .ref bM])), (bV, .inl (cy 2, 5, .inl v2)), (bH, .inl (cy 2, 5, .inl h2)), (bP, .inl (cy 3, 5, .inl pl2)), (bM, .inl (cy 3, 5, .inl me2))] [(aB, .inr (4, [.int (nI N2), .ref aV, .ref aH, .ref aP, .ref aM])), (aV, .inl (cy 2, 5, .inl v2)), (aH, .inl (cy 2, 5, .inl h2)), (aP, .inl (cy 3, 5, .inl pl2)), (aM, .inl (cy 3, 5, .inl me2)), (bB, .inr (4, [.int (nI N2), .ref bV, .ref bH, .ref bP, .ref bM])), (bV, .inl (cy 2, 5, .inl v2)), (bH, .inl (cy 2, 5, .inl h2)), (bP, .inl (cy 3, 5, .inl pl2)), (bM, .inl (cy 3, 5, .inl me2))] (none)) (F0 m 10 ls []) := by
    intro d
    induction d with
    | zero =>
      intro k hkk H locs hP hD hS ls hl
      refine lv_iload_n hx hb dX0_copyFrom_10 rfl (lv_at hl 2 rfl) ?_
      refine lv_iconst (v := 5) hx hb dX0_copyFrom_11 (by decide) ?_
      refine lv_icmp_ge (tgt := 69) hx hb dX0_copyFrom_12 (by decide) (fun c_2 => ?_) (fun c_2 => ?_)
      · have k_3 : 5 ≤ k := (m_leN (a := 5) (b := k) rfl rfl (by omega) (by omega)).mp c_2
        have k_3' : ¬ (k < 5) := by omega
        have hP := va_P.ext hP 1 (g := v2) rfl (fun j hj => cpN_at (by omega))
        have hP := va_P.ext hP 2 (g := h2) rfl (fun j hj => cpN_at (by omega))
        have hP := va_P.ext hP 3 (g := pl2) rfl (fun j hj => cpN_at (by omega))
        have hP := va_P.ext hP 4 (g := me2) rfl (fun j hj => cpN_at (by omega))
        exact wc_vret hx hb hr hlocks hP hS dX0_copyFrom_69
      · have k_4 : ¬ (5 ≤ k) := fun z => c_2 ((m_leN (a := 5) (b := k) rfl rfl (by omega) (by omega)).mpr z)
        have k_4' : k < 5 := by omega
        exfalso; omega
    | succ d ih =>
      intro k hkk H locs hP hD hS ls hl
      refine lv_iload_n hx hb dX0_copyFrom_10 rfl (lv_at hl 2 rfl) ?_
      refine lv_iconst (v := 5) hx hb dX0_copyFrom_11 (by decide) ?_
      refine lv_icmp_ge (tgt := 69) hx hb dX0_copyFrom_12 (by decide) (fun c_5 => ?_) (fun c_5 => ?_)
      · have k_6 : 5 ≤ k := (m_leN (a := 5) (b := k) rfl rfl (by omega) (by omega)).mp c_5
        have k_6' : ¬ (k < 5) := by omega
        exfalso; omega
      · have k_7 : ¬ (5 ≤ k) := fun z => c_5 ((m_leN (a := 5) (b := k) rfl rfl (by omega) (by omega)).mpr z)
        have k_7' : k < 5 := by omega
        refine lv_aload_n hx hb dX0_copyFrom_15 rfl (lv_at hl 0 rfl) ?_
        refine va_get (D := G) (ci := 4) (v := .ref aV) (C := RX0) (T := TX0) (N := 5) hx hb hts hi4 hown hK.1 hP 0 rfl rfl 1 (by decide) hf15 (fun _ h9 => h9) rfl dX0_copyFrom_16 ?_
        refine lv_iload_n hx hb dX0_copyFrom_19 rfl (lv_at hl 2 rfl) ?_
        refine lv_aload_n hx hb dX0_copyFrom_20 rfl (lv_at hl 1 rfl) ?_
        refine va_get (D := G) (ci := 4) (v := .ref bV) (C := RX0) (T := TX0) (N := 5) hx hb hts hi4 hown hK.1 hP 5 rfl rfl 1 (by decide) hf15 (fun _ h9 => h9) rfl dX0_copyFrom_21 ?_
        refine lv_iload_n hx hb dX0_copyFrom_24 rfl (lv_at hl 2 rfl) ?_
        refine m_iald hx hb hK hP 6 (k := k) rfl rfl (by omega) (Nat.le_of_ble_eq_true rfl) dX0_copyFrom_25 ?_
        refine m_iast hx hb hK hP hD hS 1 (k := k) rfl rfl (by omega) (Nat.le_of_ble_eq_true rfl) dX0_copyFrom_26 (fun H locs hP hD hS => ?_)
        have hP : va_P G vwCl [(aB, .inr (4, [.int (nI N2), .ref aV, .ref aH, .ref aP, .ref aM])), (aV, .inl (cy 2, 5, .inl (upd (cpN v v2 k) k (v2 k)))), (aH, .inl (cy 2, 5, .inl (cpN h h2 k))), (aP, .inl (cy 3, 5, .inl (cpN pl pl2 k))), (aM, .inl (cy 3, 5, .inl (cpN me me2 k))), (bB, .inr (4, [.int (nI N2), .ref bV, .ref bH, .ref bP, .ref bM])), (bV, .inl (cy 2, 5, .inl v2)), (bH, .inl (cy 2, 5, .inl h2)), (bP, .inl (cy 3, 5, .inl pl2)), (bM, .inl (cy 3, 5, .inl me2))] H := hP
        have hD : va_D (wA [(aB, .inr (4, [.int (nI N), .ref aV, .ref aH, .ref aP, .ref aM])), (aV, .inl (cy 2, 5, .inl v)), (aH, .inl (cy 2, 5, .inl h)), (aP, .inl (cy 3, 5, .inl pl)), (aM, .inl (cy 3, 5, .inl me)), (bB, .inr (4, [.int (nI N2), .ref bV, .ref bH, .ref bP, .ref bM])), (bV, .inl (cy 2, 5, .inl v2)), (bH, .inl (cy 2, 5, .inl h2)), (bP, .inl (cy 3, 5, .inl pl2)), (bM, .inl (cy 3, 5, .inl me2))]) [(aB, .inr (4, [.int (nI N2), .ref aV, .ref aH, .ref aP, .ref aM])), (aV, .inl (cy 2, 5, .inl (upd (cpN v v2 k) k (v2 k)))), (aH, .inl (cy 2, 5, .inl (cpN h h2 k))), (aP, .inl (cy 3, 5, .inl (cpN pl pl2 k))), (aM, .inl (cy 3, 5, .inl (cpN me me2 k))), (bB, .inr (4, [.int (nI N2), .ref bV, .ref bH, .ref bP, .ref bM])), (bV, .inl (cy 2, 5, .inl v2)), (bH, .inl (cy 2, 5, .inl h2)), (bP, .inl (cy 3, 5, .inl pl2)), (bM, .inl (cy 3, 5, .inl me2))] := hD
        refine lv_aload_n hx hb dX0_copyFrom_27 rfl (lv_at hl 0 rfl) ?_
        refine va_get (D := G) (ci := 4) (v := .ref aH) (C := RX0) (T := TX0) (N := 5) hx hb hts hi4 hown hK.1 hP 0 rfl rfl 2 (by decide) hf19 (fun _ h9 => h9) rfl dX0_copyFrom_28 ?_
        refine lv_iload_n hx hb dX0_copyFrom_31 rfl (lv_at hl 2 rfl) ?_
        refine lv_aload_n hx hb dX0_copyFrom_32 rfl (lv_at hl 1 rfl) ?_
        refine va_get (D := G) (ci := 4) (v := .ref bH) (C := RX0) (T := TX0) (N := 5) hx hb hts hi4 hown hK.1 hP 5 rfl rfl 2 (by decide) hf19 (fun _ h9 => h9) rfl dX0_copyFrom_33 ?_
        refine lv_iload_n hx hb dX0_copyFrom_36 rfl (lv_at hl 2 rfl) ?_
        refine m_iald hx hb hK hP 7 (k := k) rfl rfl (by omega) (Nat.le_of_ble_eq_true rfl) dX0_copyFrom_37 ?_
        refine m_iast hx hb hK hP hD hS 2 (k := k) rfl rfl (by omega) (Nat.le_of_ble_eq_true rfl) dX0_copyFrom_38 (fun H locs hP hD hS => ?_)
        have hP : va_P G vwCl [(aB, .inr (4, [.int (nI N2), .ref aV, .ref aH, .ref aP, .ref aM])), (aV, .inl (cy 2, 5, .inl (upd (cpN v v2 k) k (v2 k)))), (aH, .inl (cy 2, 5, .inl (upd (cpN h h2 k) k (h2 k)))), (aP, .inl (cy 3, 5, .inl (cpN pl pl2 k))), (aM, .inl (cy 3, 5, .inl (cpN me me2 k))), (bB, .inr (4, [.int (nI N2), .ref bV, .ref bH, .ref bP, .ref bM])), (bV, .inl (cy 2, 5, .inl v2)), (bH, .inl (cy 2, 5, .inl h2)), (bP, .inl (cy 3, 5, .inl pl2)), (bM, .inl (cy 3, 5, .inl me2))] H := hP
        have hD : va_D (wA [(aB, .inr (4, [.int (nI N), .ref aV, .ref aH, .ref aP, .ref aM])), (aV, .inl (cy 2, 5, .inl v)), (aH, .inl (cy 2, 5, .inl h)), (aP, .inl (cy 3, 5, .inl pl)), (aM, .inl (cy 3, 5, .inl me)), (bB, .inr (4, [.int (nI N2), .ref bV, .ref bH, .ref bP, .ref bM])), (bV, .inl (cy 2, 5, .inl v2)), (bH, .inl (cy 2, 5, .inl h2)), (bP, .inl (cy 3, 5, .inl pl2)), (bM, .inl (cy 3, 5, .inl me2))]) [(aB, .inr (4, [.int (nI N2), .ref aV, .ref aH, .ref aP, .ref aM])), (aV, .inl (cy 2, 5, .inl (upd (cpN v v2 k) k (v2 k)))), (aH, .inl (cy 2, 5, .inl (upd (cpN h h2 k) k (h2 k)))), (aP, .inl (cy 3, 5, .inl (cpN pl pl2 k))), (aM, .inl (cy 3, 5, .inl (cpN me me2 k))), (bB, .inr (4, [.int (nI N2), .ref bV, .ref bH, .ref bP, .ref bM])), (bV, .inl (cy 2, 5, .inl v2)), (bH, .inl (cy 2, 5, .inl h2)), (bP, .inl (cy 3, 5, .inl pl2)), (bM, .inl (cy 3, 5, .inl me2))] := hD
        refine lv_aload_n hx hb dX0_copyFrom_39 rfl (lv_at hl 0 rfl) ?_
        refine va_get (D := G) (ci := 4) (v := .ref aP) (C := RX0) (T := TX0) (N := 5) hx hb hts hi4 hown hK.1 hP 0 rfl rfl 3 (by decide) hf22 (fun _ h9 => h9) rfl dX0_copyFrom_40 ?_
        refine lv_iload_n hx hb dX0_copyFrom_43 rfl (lv_at hl 2 rfl) ?_
        refine lv_aload_n hx hb dX0_copyFrom_44 rfl (lv_at hl 1 rfl) ?_
        refine va_get (D := G) (ci := 4) (v := .ref bP) (C := RX0) (T := TX0) (N := 5) hx hb hts hi4 hown hK.1 hP 5 rfl rfl 3 (by decide) hf22 (fun _ h9 => h9) rfl dX0_copyFrom_45 ?_
        refine lv_iload_n hx hb dX0_copyFrom_48 rfl (lv_at hl 2 rfl) ?_
        refine m_zald hx hb hK hP 8 (k := k) rfl rfl (by omega) (Nat.le_of_ble_eq_true rfl) dX0_copyFrom_49 ?_
        refine m_zast hx hb hK hP hD hS 3 (k := k) rfl rfl (by omega) (Nat.le_of_ble_eq_true rfl) (hz1 _ (by omega)) dX0_copyFrom_50 (fun H locs hP hD hS => ?_)
        have hP : va_P G vwCl [(aB, .inr (4, [.int (nI N2), .ref aV, .ref aH, .ref aP, .ref aM])), (aV, .inl (cy 2, 5, .inl (upd (cpN v v2 k) k (v2 k)))), (aH, .inl (cy 2, 5, .inl (upd (cpN h h2 k) k (h2 k)))), (aP, .inl (cy 3, 5, .inl (upd (cpN pl pl2 k) k (pl2 k)))), (aM, .inl (cy 3, 5, .inl (cpN me me2 k))), (bB, .inr (4, [.int (nI N2), .ref bV, .ref bH, .ref bP, .ref bM])), (bV, .inl (cy 2, 5, .inl v2)), (bH, .inl (cy 2, 5, .inl h2)), (bP, .inl (cy 3, 5, .inl pl2)), (bM, .inl (cy 3, 5, .inl me2))] H := hP
        have hD : va_D (wA [(aB, .inr (4, [.int (nI N), .ref aV, .ref aH, .ref aP, .ref aM])), (aV, .inl (cy 2, 5, .inl v)), (aH, .inl (cy 2, 5, .inl h)), (aP, .inl (cy 3, 5, .inl pl)), (aM, .inl (cy 3, 5, .inl me)), (bB, .inr (4, [.int (nI N2), .ref bV, .ref bH, .ref bP, .ref bM])), (bV, .inl (cy 2, 5, .inl v2)), (bH, .inl (cy 2, 5, .inl h2)), (bP, .inl (cy 3, 5, .inl pl2)), (bM, .inl (cy 3, 5, .inl me2))]) [(aB, .inr (4, [.int (nI N2), .ref aV, .ref aH, .ref aP, .ref aM])), (aV, .inl (cy 2, 5, .inl (upd (cpN v v2 k) k (v2 k)))), (aH, .inl (cy 2, 5, .inl (upd (cpN h h2 k) k (h2 k)))), (aP, .inl (cy 3, 5, .inl (upd (cpN pl pl2 k) k (pl2 k)))), (aM, .inl (cy 3, 5, .inl (cpN me me2 k))), (bB, .inr (4, [.int (nI N2), .ref bV, .ref bH, .ref bP, .ref bM])), (bV, .inl (cy 2, 5, .inl v2)), (bH, .inl (cy 2, 5, .inl h2)), (bP, .inl (cy 3, 5, .inl pl2)), (bM, .inl (cy 3, 5, .inl me2))] := hD
        refine lv_aload_n hx hb dX0_copyFrom_51 rfl (lv_at hl 0 rfl) ?_
        refine va_get (D := G) (ci := 4) (v := .ref aM) (C := RX0) (T := TX0) (N := 5) hx hb hts hi4 hown hK.1 hP 0 rfl rfl 4 (by decide) hf26 (fun _ h9 => h9) rfl dX0_copyFrom_52 ?_
        refine lv_iload_n hx hb dX0_copyFrom_55 rfl (lv_at hl 2 rfl) ?_
        refine lv_aload_n hx hb dX0_copyFrom_56 rfl (lv_at hl 1 rfl) ?_
        refine va_get (D := G) (ci := 4) (v := .ref bM) (C := RX0) (T := TX0) (N := 5) hx hb hts hi4 hown hK.1 hP 5 rfl rfl 4 (by decide) hf26 (fun _ h9 => h9) rfl dX0_copyFrom_57 ?_
        refine lv_iload_n hx hb dX0_copyFrom_60 rfl (lv_at hl 2 rfl) ?_
        refine m_zald hx hb hK hP 9 (k := k) rfl rfl (by omega) (Nat.le_of_ble_eq_true rfl) dX0_copyFrom_61 ?_
        refine m_zast hx hb hK hP hD hS 4 (k := k) rfl rfl (by omega) (Nat.le_of_ble_eq_true rfl) (hz2 _ (by omega)) dX0_copyFrom_62 (fun H locs hP hD hS => ?_)
        have hP : va_P G vwCl [(aB, .inr (4, [.int (nI N2), .ref aV, .ref aH, .ref aP, .ref aM])), (aV, .inl (cy 2, 5, .inl (upd (cpN v v2 k) k (v2 k)))), (aH, .inl (cy 2, 5, .inl (upd (cpN h h2 k) k (h2 k)))), (aP, .inl (cy 3, 5, .inl (upd (cpN pl pl2 k) k (pl2 k)))), (aM, .inl (cy 3, 5, .inl (upd (cpN me me2 k) k (me2 k)))), (bB, .inr (4, [.int (nI N2), .ref bV, .ref bH, .ref bP, .ref bM])), (bV, .inl (cy 2, 5, .inl v2)), (bH, .inl (cy 2, 5, .inl h2)), (bP, .inl (cy 3, 5, .inl pl2)), (bM, .inl (cy 3, 5, .inl me2))] H := hP
        have hD : va_D (wA [(aB, .inr (4, [.int (nI N), .ref aV, .ref aH, .ref aP, .ref aM])), (aV, .inl (cy 2, 5, .inl v)), (aH, .inl (cy 2, 5, .inl h)), (aP, .inl (cy 3, 5, .inl pl)), (aM, .inl (cy 3, 5, .inl me)), (bB, .inr (4, [.int (nI N2), .ref bV, .ref bH, .ref bP, .ref bM])), (bV, .inl (cy 2, 5, .inl v2)), (bH, .inl (cy 2, 5, .inl h2)), (bP, .inl (cy 3, 5, .inl pl2)), (bM, .inl (cy 3, 5, .inl me2))]) [(aB, .inr (4, [.int (nI N2), .ref aV, .ref aH, .ref aP, .ref aM])), (aV, .inl (cy 2, 5, .inl (upd (cpN v v2 k) k (v2 k)))), (aH, .inl (cy 2, 5, .inl (upd (cpN h h2 k) k (h2 k)))), (aP, .inl (cy 3, 5, .inl (upd (cpN pl pl2 k) k (pl2 k)))), (aM, .inl (cy 3, 5, .inl (upd (cpN me me2 k) k (me2 k)))), (bB, .inr (4, [.int (nI N2), .ref bV, .ref bH, .ref bP, .ref bM])), (bV, .inl (cy 2, 5, .inl v2)), (bH, .inl (cy 2, 5, .inl h2)), (bP, .inl (cy 3, 5, .inl pl2)), (bM, .inl (cy 3, 5, .inl me2))] := hD
        refine lv_iinc (v := nI (k + 1)) (lv' := [(2, .int (nI (k + 1))), (0, .ref aB), (1, .ref bB)]) hx hb dX0_copyFrom_63 hl (k := 2) rfl (m_inc _) (by decide) rfl (fun ls hl => ?_)
        refine lv_goto (tgt := 10) hx hb dX0_copyFrom_66 (by decide) ?_
        have e_8 : cpN v v2 (k + 1) = upd (cpN v v2 k) k (v2 k) := rfl
        have e_9 : cpN h h2 (k + 1) = upd (cpN h h2 k) k (h2 k) := rfl
        have e_10 : cpN pl pl2 (k + 1) = upd (cpN pl pl2 k) k (pl2 k) := rfl
        have e_11 : cpN me me2 (k + 1) = upd (cpN me me2 k) k (me2 k) := rfl
        exact ih (k + 1) (by omega) H locs (by rw [e_8, e_9, e_10, e_11]; exact hP) (m_D10 hD) hS ls (lv_sub hl [1, 2, 0] rfl)
  exact L_1 5 0 (by omega) _ _ hP (m_D10 hD) hS ls (lv_sub hl [1, 2, 0] rfl)

set_option maxRecDepth 100000 in
set_option maxHeartbeats 1000000 in
theorem c_X0_shareHeat (l : Launch) (G : va_G) (cy : Nat → ClassId) (aB aV aH aP aM N : Nat) (v h pl me : Nat → Int32) (hN : N ≤ 5) : WC l yX0_shareHeat wsX0_shareHeat { frames := 2, cells := 0, slots := 0, locals := 45 } G (PB G cy [(aB, .inr (4, [.int (nI N), .ref aV, .ref aH, .ref aP, .ref aM])), (aV, .inl (cy 2, 5, .inl v)), (aH, .inl (cy 2, 5, .inl h)), (aP, .inl (cy 3, 5, .inl pl)), (aM, .inl (cy 3, 5, .inl me))]) [.ref aB] [(aB, .inr (4, [.int (nI N), .ref aV, .ref aH, .ref aP, .ref aM])), (aV, .inl (cy 2, 5, .inl v)), (aH, .inl (cy 2, 5, .inl h)), (aP, .inl (cy 3, 5, .inl pl)), (aM, .inl (cy 3, 5, .inl me))] [(aB, .inr (4, [.int (nI N), .ref aV, .ref aH, .ref aP, .ref aM])), (aV, .inl (cy 2, 5, .inl v)), (aH, .inl (cy 2, 5, .inl (shH v h me N))), (aP, .inl (cy 3, 5, .inl pl)), (aM, .inl (cy 3, 5, .inl me))] (none) := by
  refine WC.ofW (cc := cX0_shareHeat) (maxL := 4) (ret := none) (by decide) rfl (Nat.le_of_ble_eq_true rfl) ?_
  intro p e s m below meth c S9 hr hlocks hPB hD hS ls hl
  obtain ⟨hx, hb, hml, hown, hts⟩ := id S9
  obtain ⟨hP, hK⟩ := hPB
  have hl : lv_has ls 4 [(0, .ref aB)] := hl
  have hi4 : ∀ w ∈ wsX00, w ∈ wsX0_shareHeat := by decide +kernel
  have hf19 := hts (.fieldLink RX0 19 "BathLeague$Baths" "heat" "[I") (by decide +kernel)
  refine lv_aload_n hx hb dX0_shareHeat_0 rfl (lv_at hl 0 rfl) ?_
  refine c_roVi S9 (c_X0_membersWithWater l G cy aB aV aH aP aM N v h pl me (by omega)) (cwV 0 hts gX0_shareHeat_X0_membersWithWater rfl rfl rfl (by decide +kernel) ⟨Nat.le_of_ble_eq_true rfl, Nat.le_of_ble_eq_true rfl⟩) PB.blind (va_recv hK.1 hP (ci := 4) (q0 := 0) rfl rfl) (PB.at hK (m_Ppart hP [0, 1, 2, 3, 4] rfl)) rfl hl.1 rfl (Nat.le_of_ble_eq_true rfl) ⟨Nat.zero_le _, Nat.zero_le _⟩ dX0_shareHeat_1 ?_
  refine lv_iconst (v := 2) hx hb dX0_shareHeat_4 (by decide) ?_
  refine lv_icmp_ge (tgt := 9) hx hb dX0_shareHeat_5 (by decide) (fun c_1 => ?_) (fun c_1 => ?_)
  · have c_1' : ¬ (cntW v me N) < 2 := Int32.not_lt.mpr c_1
    obtain ⟨a, hO⟩ := hotO_some (h := h) hN c_1
    obtain ⟨b, hC⟩ := colO_some (h := h) hN c_1
    have ha := hotO_lt hO
    have hb2 := colO_lt hC
    refine lv_aload_n hx hb dX0_shareHeat_9 rfl (lv_at hl 0 rfl) ?_
    refine c_roVi S9 (c_X0_hottestMember l G cy aB aV aH aP aM N v h pl me (by omega)) (cwV 0 hts gX0_shareHeat_X0_hottestMember rfl rfl rfl (by decide +kernel) ⟨Nat.le_of_ble_eq_true rfl, Nat.le_of_ble_eq_true rfl⟩) PB.blind (va_recv hK.1 hP (ci := 4) (q0 := 0) rfl rfl) (PB.at hK (m_Ppart hP [0, 1, 2, 3, 4] rfl)) rfl hl.1 rfl (Nat.le_of_ble_eq_true rfl) ⟨Nat.zero_le _, Nat.zero_le _⟩ dX0_shareHeat_10 ?_
    refine lv_t0 (show oi (hotO v h me N) = nI a from by rw [hO]; rfl) ?_
    refine lv_istore_n (lv' := [(1, .int (nI a)), (0, .ref aB)]) hx hb dX0_shareHeat_13 rfl hl (by decide) rfl (fun ls hl => ?_)
    refine lv_aload_n hx hb dX0_shareHeat_14 rfl (lv_at hl 1 rfl) ?_
    refine c_roVi S9 (c_X0_coolestMember l G cy aB aV aH aP aM N v h pl me (by omega)) (cwV 0 hts gX0_shareHeat_X0_coolestMember rfl rfl rfl (by decide +kernel) ⟨Nat.le_of_ble_eq_true rfl, Nat.le_of_ble_eq_true rfl⟩) PB.blind (va_recv hK.1 hP (ci := 4) (q0 := 0) rfl rfl) (PB.at hK (m_Ppart hP [0, 1, 2, 3, 4] rfl)) rfl hl.1 rfl (Nat.le_of_ble_eq_true rfl) ⟨Nat.zero_le _, Nat.zero_le _⟩ dX0_shareHeat_15 ?_
    refine lv_t0 (show oi (colO v h me N) = nI b from by rw [hC]; rfl) ?_
    refine lv_istore_n (lv' := [(2, .int (nI b)), (1, .int (nI a)), (0, .ref aB)]) hx hb dX0_shareHeat_18 rfl hl (by decide) rfl (fun ls hl => ?_)
    refine lv_aload_n hx hb dX0_shareHeat_19 rfl (lv_at hl 2 rfl) ?_
    refine lv_iload_n hx hb dX0_shareHeat_20 rfl (lv_at hl 1 rfl) ?_
    refine lv_iload_n hx hb dX0_shareHeat_21 rfl (lv_at hl 0 rfl) ?_
    refine c_roVi S9 (c_X0_unitsToShare l G cy aB aV aH aP aM N v h pl me a b (by omega) (by omega) (by omega)) (cwV 2 hts gX0_shareHeat_X0_unitsToShare rfl rfl rfl (by decide +kernel) ⟨Nat.le_of_ble_eq_true rfl, Nat.le_of_ble_eq_true rfl⟩) PB.blind (va_recv hK.1 hP (ci := 4) (q0 := 0) rfl rfl) (PB.at hK (m_Ppart hP [0, 1, 2, 3, 4] rfl)) rfl hl.1 rfl (Nat.le_of_ble_eq_true rfl) ⟨Nat.zero_le _, Nat.zero_le _⟩ dX0_shareHeat_22 ?_
    refine lv_istore_n (lv' := [(3, .int (units v h a b)), (2, .int (nI b)), (1, .int (nI a)), (0, .ref aB)]) hx hb dX0_shareHeat_25 rfl hl (by decide) rfl (fun ls hl => ?_)
    refine lv_aload_n hx hb dX0_shareHeat_26 rfl (lv_at hl 3 rfl) ?_
    refine va_get (D := G) (ci := 4) (v := .ref aH) (C := RX0) (T := TX0) (N := 5) hx hb hts hi4 hown hK.1 hP 0 rfl rfl 2 (by decide) hf19 (fun _ h9 => h9) rfl dX0_shareHeat_27 ?_
    refine lv_iload_n hx hb dX0_shareHeat_30 rfl (lv_at hl 2 rfl) ?_
    refine lv_dup2_11 hx hb dX0_shareHeat_31 rfl rfl ?_
    refine m_iald hx hb hK hP 2 (k := a) rfl rfl (by omega) (Nat.le_of_ble_eq_true rfl) dX0_shareHeat_32 ?_
    refine lv_iload_n hx hb dX0_shareHeat_33 rfl (lv_at hl 0 rfl) ?_
    refine lv_isub hx hb dX0_shareHeat_34 ?_
    refine m_iast hx hb hK hP hD hS 2 (k := a) rfl rfl (by omega) (Nat.le_of_ble_eq_true rfl) dX0_shareHeat_35 (fun H locs hP hD hS => ?_)
    have hP : va_P G vwCl [(aB, .inr (4, [.int (nI N), .ref aV, .ref aH, .ref aP, .ref aM])), (aV, .inl (cy 2, 5, .inl v)), (aH, .inl (cy 2, 5, .inl (upd h a ((h a) - (units v h a b))))), (aP, .inl (cy 3, 5, .inl pl)), (aM, .inl (cy 3, 5, .inl me))] H := hP
    have hD : va_D (wA [(aB, .inr (4, [.int (nI N), .ref aV, .ref aH, .ref aP, .ref aM])), (aV, .inl (cy 2, 5, .inl v)), (aH, .inl (cy 2, 5, .inl h)), (aP, .inl (cy 3, 5, .inl pl)), (aM, .inl (cy 3, 5, .inl me))]) [(aB, .inr (4, [.int (nI N), .ref aV, .ref aH, .ref aP, .ref aM])), (aV, .inl (cy 2, 5, .inl v)), (aH, .inl (cy 2, 5, .inl (upd h a ((h a) - (units v h a b))))), (aP, .inl (cy 3, 5, .inl pl)), (aM, .inl (cy 3, 5, .inl me))] := hD
    refine lv_aload_n hx hb dX0_shareHeat_36 rfl (lv_at hl 3 rfl) ?_
    refine va_get (D := G) (ci := 4) (v := .ref aH) (C := RX0) (T := TX0) (N := 5) hx hb hts hi4 hown hK.1 hP 0 rfl rfl 2 (by decide) hf19 (fun _ h9 => h9) rfl dX0_shareHeat_37 ?_
    refine lv_iload_n hx hb dX0_shareHeat_40 rfl (lv_at hl 1 rfl) ?_
    refine lv_dup2_11 hx hb dX0_shareHeat_41 rfl rfl ?_
    refine m_iald hx hb hK hP 2 (k := b) rfl rfl (by omega) (Nat.le_of_ble_eq_true rfl) dX0_shareHeat_42 ?_
    refine lv_iload_n hx hb dX0_shareHeat_43 rfl (lv_at hl 0 rfl) ?_
    refine lv_iadd hx hb dX0_shareHeat_44 ?_
    refine m_iast hx hb hK hP hD hS 2 (k := b) rfl rfl (by omega) (Nat.le_of_ble_eq_true rfl) dX0_shareHeat_45 (fun H locs hP hD hS => ?_)
    have hP : va_P G vwCl [(aB, .inr (4, [.int (nI N), .ref aV, .ref aH, .ref aP, .ref aM])), (aV, .inl (cy 2, 5, .inl v)), (aH, .inl (cy 2, 5, .inl (upd (upd h a ((h a) - (units v h a b))) b (((upd h a ((h a) - (units v h a b))) b) + (units v h a b))))), (aP, .inl (cy 3, 5, .inl pl)), (aM, .inl (cy 3, 5, .inl me))] H := hP
    have hD : va_D (wA [(aB, .inr (4, [.int (nI N), .ref aV, .ref aH, .ref aP, .ref aM])), (aV, .inl (cy 2, 5, .inl v)), (aH, .inl (cy 2, 5, .inl h)), (aP, .inl (cy 3, 5, .inl pl)), (aM, .inl (cy 3, 5, .inl me))]) [(aB, .inr (4, [.int (nI N), .ref aV, .ref aH, .ref aP, .ref aM])), (aV, .inl (cy 2, 5, .inl v)), (aH, .inl (cy 2, 5, .inl (upd (upd h a ((h a) - (units v h a b))) b (((upd h a ((h a) - (units v h a b))) b) + (units v h a b))))), (aP, .inl (cy 3, 5, .inl pl)), (aM, .inl (cy 3, 5, .inl me))] := hD
    have e_2 : shH v h me N = upd (upd h a ((h a) - (units v h a b))) b (((upd h a ((h a) - (units v h a b))) b) + (units v h a b)) := (by simp [shH, c_1', c_1, hO, hC])
    exact wc_vret hx hb hr hlocks (by rw [e_2]; exact hP) hS dX0_shareHeat_46
  · have c_1' : (cntW v me N) < 2 := Int32.not_le.mp c_1
    have e_3 : shH v h me N = h := (by simp [shH, c_1', c_1])
    exact wc_vret hx hb hr hlocks (by rw [e_3]; exact hP) hS dX0_shareHeat_8
