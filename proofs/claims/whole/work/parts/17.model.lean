set_option maxRecDepth 100000 in
set_option maxHeartbeats 1000000 in
theorem c_X8_in (l : Launch) (G : va_G) (cy : Nat → ClassId) (x lo hi : Int32) : RO l yX8_in wsX8_in { frames := 0, cells := 0, slots := 0, locals := 0 } (PB G cy []) [.int x, .int lo, .int hi] (some (.int (if inR x lo hi = true then 1 else 0))) := by
  refine RO.ofW (cc := cX8_in) (maxL := 3) (ret := (some .boolean)) (by decide) rfl (Nat.le_of_ble_eq_true rfl) ?_
  intro p e s m below meth c S9 hr hlocks hPB ls hl
  obtain ⟨hx, hb, hml, hown, hts⟩ := id S9
  obtain ⟨hP, hK⟩ := hPB
  have hl : lv_has ls 3 [(0, .int x), (1, .int lo), (2, .int hi)] := hl
  refine lv_iload_n hx hb dX8_in_0 rfl (lv_at hl 0 rfl) ?_
  refine lv_iload_n hx hb dX8_in_1 rfl (lv_at hl 1 rfl) ?_
  refine lv_icmp_lt (tgt := 14) hx hb dX8_in_2 (by decide) (fun c_1 => ?_) (fun c_1 => ?_)
  · have c_1' : ¬ lo ≤ x := Int32.not_le.mpr c_1
    refine lv_iconst (v := 0) hx hb dX8_in_14 (by decide) ?_
    exact ro_zret hx hb hr hlocks (by first | rfl | (split <;> rfl)) (by simp [inR, c_1', c_1]) dX8_in_15
  · have c_1' : lo ≤ x := Int32.not_lt.mp c_1
    refine lv_iload_n hx hb dX8_in_5 rfl (lv_at hl 0 rfl) ?_
    refine lv_iload_n hx hb dX8_in_6 rfl (lv_at hl 2 rfl) ?_
    refine lv_icmp_gt (tgt := 14) hx hb dX8_in_7 (by decide) (fun c_2 => ?_) (fun c_2 => ?_)
    · have c_2' : ¬ x ≤ hi := Int32.not_le.mpr c_2
      refine lv_iconst (v := 0) hx hb dX8_in_14 (by decide) ?_
      exact ro_zret hx hb hr hlocks (by first | rfl | (split <;> rfl)) (by simp [inR, c_1', c_1, c_2', c_2]) dX8_in_15
    · have c_2' : x ≤ hi := Int32.not_lt.mp c_2
      refine lv_iconst (v := 1) hx hb dX8_in_10 (by decide) ?_
      refine lv_goto (tgt := 15) hx hb dX8_in_11 (by decide) ?_
      exact ro_zret hx hb hr hlocks (by first | rfl | (split <;> rfl)) (by simp [inR, c_1', c_1, c_2', c_2]) dX8_in_15

set_option maxRecDepth 100000 in
set_option maxHeartbeats 1000000 in
theorem c_X8_fails (l : Launch) (G : va_G) (cy : Nat → ClassId) (am aS aBf aAs aSv aPa aOu aTx aCo K OM LN PO CM : Nat) (iS th iw ea fa : Int32) (N : Nat) (v h pl me : Nat → Int32) (M : Nat) (db dl du dq dw : Nat → Int32) (E : Nat) (ek eb el : Nat → Int32) (t1 t2 t3 t4 t5 t6 x : Int32) : WC l yX8_fails wsX8_fails { frames := 0, cells := 0, slots := 0, locals := 0 } G (PB G cy [(am, .inr (12, [.ref aS, .ref aBf, .ref aAs, .ref aSv, .int iS, .ref aPa, .int (nI K), .int th, .ref aOu, .int (nI OM), .ref aTx, .int (nI LN), .int (nI PO), .int iw, .int ea, .int fa, .ref aCo, .int (nI CM)])), (aS, .inl (cy 2, 89, .inl (encT N v h pl me M db dl du dq dw E ek eb el t1 t2 t3 t4 t5 t6)))]) [.ref am, .int x] [(am, .inr (12, [.ref aS, .ref aBf, .ref aAs, .ref aSv, .int iS, .ref aPa, .int (nI K), .int th, .ref aOu, .int (nI OM), .ref aTx, .int (nI LN), .int (nI PO), .int iw, .int ea, .int fa, .ref aCo, .int (nI CM)])), (aS, .inl (cy 2, 89, .inl (encT N v h pl me M db dl du dq dw E ek eb el t1 t2 t3 t4 t5 t6)))] [(am, .inr (12, [.ref aS, .ref aBf, .ref aAs, .ref aSv, .int iS, .ref aPa, .int (nI K), .int x, .ref aOu, .int (nI OM), .ref aTx, .int (nI LN), .int (nI PO), .int iw, .int ea, .int fa, .ref aCo, .int (nI CM)])), (aS, .inl (cy 2, 89, .inl (encT N v h pl me M db dl du dq dw E ek eb el t1 t2 t3 t4 t5 t6)))] (some (.int 0)) := by
  refine WC.ofW (cc := cX8_fails) (maxL := 2) (ret := (some .int)) (by decide) rfl (Nat.le_of_ble_eq_true rfl) ?_
  intro p e s m below meth c S9 hr hlocks hPB hD hS ls hl
  obtain ⟨hx, hb, hml, hown, hts⟩ := id S9
  obtain ⟨hP, hK⟩ := hPB
  have hl : lv_has ls 2 [(0, .ref am), (1, .int x)] := hl
  have hi12 : ∀ w ∈ wsX80, w ∈ wsX8_fails := by decide +kernel
  have hf42 := hts (.fieldLink RX8 42 "BathLeagueModel" "thrown" "I") (by decide +kernel)
  refine lv_aload_n hx hb dX8_fails_0 rfl (lv_at hl 0 rfl) ?_
  refine lv_iload_n hx hb dX8_fails_1 rfl (lv_at hl 1 rfl) ?_
  refine va_put (D := G) (ci := 12) (v := .int x) (ty := .int) (C := RX8) (T := TX8) (N := 18) hx hb hts hi12 tyX8 tyX8_ok nmX8 hown hK.1 hP hD hS 0 rfl rfl 7 (by decide) hf42 (fun _ h9 => h9) rfl (by decide +kernel) rfl rfl (Nat.le_of_ble_eq_true rfl) dX8_fails_2 (fun H locs hP hD hS => ?_)
  have hP : va_P G vwCl [(am, .inr (12, [.ref aS, .ref aBf, .ref aAs, .ref aSv, .int iS, .ref aPa, .int (nI K), .int x, .ref aOu, .int (nI OM), .ref aTx, .int (nI LN), .int (nI PO), .int iw, .int ea, .int fa, .ref aCo, .int (nI CM)])), (aS, .inl (cy 2, 89, .inl (encT N v h pl me M db dl du dq dw E ek eb el t1 t2 t3 t4 t5 t6)))] H := hP
  have hD : va_D (wA [(am, .inr (12, [.ref aS, .ref aBf, .ref aAs, .ref aSv, .int iS, .ref aPa, .int (nI K), .int th, .ref aOu, .int (nI OM), .ref aTx, .int (nI LN), .int (nI PO), .int iw, .int ea, .int fa, .ref aCo, .int (nI CM)])), (aS, .inl (cy 2, 89, .inl (encT N v h pl me M db dl du dq dw E ek eb el t1 t2 t3 t4 t5 t6)))]) [(am, .inr (12, [.ref aS, .ref aBf, .ref aAs, .ref aSv, .int iS, .ref aPa, .int (nI K), .int x, .ref aOu, .int (nI OM), .ref aTx, .int (nI LN), .int (nI PO), .int iw, .int ea, .int fa, .ref aCo, .int (nI CM)])), (aS, .inl (cy 2, 89, .inl (encT N v h pl me M db dl du dq dw E ek eb el t1 t2 t3 t4 t5 t6)))] := hD
  refine lv_iconst (v := 0) hx hb dX8_fails_5 (by decide) ?_
  exact wc_iret hx hb hr hlocks hP hS rfl dX8_fails_6

set_option maxRecDepth 100000 in
set_option maxHeartbeats 1000000 in
theorem c_X8_isThere_0 (l : Launch) (G : va_G) (cy : Nat → ClassId) (am aS aBf aAs aSv aPa aOu aTx aCo K OM LN PO CM : Nat) (iS th iw ea fa : Int32) (N : Nat) (v h pl me : Nat → Int32) (M : Nat) (db dl du dq dw : Nat → Int32) (E : Nat) (ek eb el : Nat → Int32) (t1 t2 t3 t4 t5 t6 : Int32) : WC l yX8_isThere wsX8_isThere { frames := 0, cells := 0, slots := 0, locals := 0 } G (PB G cy [(am, .inr (12, [.ref aS, .ref aBf, .ref aAs, .ref aSv, .int iS, .ref aPa, .int (nI K), .int th, .ref aOu, .int (nI OM), .ref aTx, .int (nI LN), .int (nI PO), .int iw, .int ea, .int fa, .ref aCo, .int (nI CM)])), (aS, .inl (cy 2, 89, .inl (encT N v h pl me M db dl du dq dw E ek eb el t1 t2 t3 t4 t5 t6)))]) [.ref am, .int 0] [(am, .inr (12, [.ref aS, .ref aBf, .ref aAs, .ref aSv, .int iS, .ref aPa, .int (nI K), .int th, .ref aOu, .int (nI OM), .ref aTx, .int (nI LN), .int (nI PO), .int iw, .int ea, .int fa, .ref aCo, .int (nI CM)])), (aS, .inl (cy 2, 89, .inl (encT N v h pl me M db dl du dq dw E ek eb el t1 t2 t3 t4 t5 t6)))] [(am, .inr (12, [.ref aS, .ref aBf, .ref aAs, .ref aSv, .int iS, .ref aPa, .int (nI K), .int 1, .ref aOu, .int (nI OM), .ref aTx, .int (nI LN), .int (nI PO), .int iw, .int ea, .int fa, .ref aCo, .int (nI CM)])), (aS, .inl (cy 2, 89, .inl (encT N v h pl me M db dl du dq dw E ek eb el t1 t2 t3 t4 t5 t6)))] (some (.int 0)) := by
  refine WC.ofW (cc := cX8_isThere) (maxL := 2) (ret := (some .boolean)) (by decide) rfl (Nat.le_of_ble_eq_true rfl) ?_
  intro p e s m below meth c S9 hr hlocks hPB hD hS ls hl
  obtain ⟨hx, hb, hml, hown, hts⟩ := id S9
  obtain ⟨hP, hK⟩ := hPB
  have hl : lv_has ls 2 [(0, .ref am), (1, .int 0)] := hl
  have hi12 : ∀ w ∈ wsX80, w ∈ wsX8_isThere := by decide +kernel
  have hf42 := hts (.fieldLink RX8 42 "BathLeagueModel" "thrown" "I") (by decide +kernel)
  refine lv_aload_n hx hb dX8_isThere_0 rfl (lv_at hl 0 rfl) ?_
  refine lv_iload_n hx hb dX8_isThere_1 rfl (lv_at hl 1 rfl) ?_
  refine lv_if_eq (tgt := 9) hx hb dX8_isThere_2 (by decide) (fun c_1 => ?_) (fun c_1 => ?_)
  · refine lv_iconst (v := 1) hx hb dX8_isThere_9 (by decide) ?_
    refine va_put (D := G) (ci := 12) (v := .int 1) (ty := .int) (C := RX8) (T := TX8) (N := 18) hx hb hts hi12 tyX8 tyX8_ok nmX8 hown hK.1 hP hD hS 0 rfl rfl 7 (by decide) hf42 (fun _ h9 => h9) rfl (by decide +kernel) rfl rfl (Nat.le_of_ble_eq_true rfl) dX8_isThere_10 (fun H locs hP hD hS => ?_)
    have hP : va_P G vwCl [(am, .inr (12, [.ref aS, .ref aBf, .ref aAs, .ref aSv, .int iS, .ref aPa, .int (nI K), .int 1, .ref aOu, .int (nI OM), .ref aTx, .int (nI LN), .int (nI PO), .int iw, .int ea, .int fa, .ref aCo, .int (nI CM)])), (aS, .inl (cy 2, 89, .inl (encT N v h pl me M db dl du dq dw E ek eb el t1 t2 t3 t4 t5 t6)))] H := hP
    have hD : va_D (wA [(am, .inr (12, [.ref aS, .ref aBf, .ref aAs, .ref aSv, .int iS, .ref aPa, .int (nI K), .int th, .ref aOu, .int (nI OM), .ref aTx, .int (nI LN), .int (nI PO), .int iw, .int ea, .int fa, .ref aCo, .int (nI CM)])), (aS, .inl (cy 2, 89, .inl (encT N v h pl me M db dl du dq dw E ek eb el t1 t2 t3 t4 t5 t6)))]) [(am, .inr (12, [.ref aS, .ref aBf, .ref aAs, .ref aSv, .int iS, .ref aPa, .int (nI K), .int 1, .ref aOu, .int (nI OM), .ref aTx, .int (nI LN), .int (nI PO), .int iw, .int ea, .int fa, .ref aCo, .int (nI CM)])), (aS, .inl (cy 2, 89, .inl (encT N v h pl me M db dl du dq dw E ek eb el t1 t2 t3 t4 t5 t6)))] := hD
    refine lv_iload_n hx hb dX8_isThere_13 rfl (lv_at hl 1 rfl) ?_
    exact wc_zret hx hb hr hlocks hP hS (by first | rfl | (split <;> rfl)) rfl dX8_isThere_14
  · exact absurd c_1 (by decide)

set_option maxRecDepth 100000 in
set_option maxHeartbeats 1000000 in
theorem c_X8_isThere_1 (l : Launch) (G : va_G) (cy : Nat → ClassId) (am aS aBf aAs aSv aPa aOu aTx aCo K OM LN PO CM : Nat) (iS th iw ea fa : Int32) (N : Nat) (v h pl me : Nat → Int32) (M : Nat) (db dl du dq dw : Nat → Int32) (E : Nat) (ek eb el : Nat → Int32) (t1 t2 t3 t4 t5 t6 : Int32) : WC l yX8_isThere wsX8_isThere { frames := 0, cells := 0, slots := 0, locals := 0 } G (PB G cy [(am, .inr (12, [.ref aS, .ref aBf, .ref aAs, .ref aSv, .int iS, .ref aPa, .int (nI K), .int th, .ref aOu, .int (nI OM), .ref aTx, .int (nI LN), .int (nI PO), .int iw, .int ea, .int fa, .ref aCo, .int (nI CM)])), (aS, .inl (cy 2, 89, .inl (encT N v h pl me M db dl du dq dw E ek eb el t1 t2 t3 t4 t5 t6)))]) [.ref am, .int 1] [(am, .inr (12, [.ref aS, .ref aBf, .ref aAs, .ref aSv, .int iS, .ref aPa, .int (nI K), .int th, .ref aOu, .int (nI OM), .ref aTx, .int (nI LN), .int (nI PO), .int iw, .int ea, .int fa, .ref aCo, .int (nI CM)])), (aS, .inl (cy 2, 89, .inl (encT N v h pl me M db dl du dq dw E ek eb el t1 t2 t3 t4 t5 t6)))] [(am, .inr (12, [.ref aS, .ref aBf, .ref aAs, .ref aSv, .int iS, .ref aPa, .int (nI K), .int 0, .ref aOu, .int (nI OM), .ref aTx, .int (nI LN), .int (nI PO), .int iw, .int ea, .int fa, .ref aCo, .int (nI CM)])), (aS, .inl (cy 2, 89, .inl (encT N v h pl me M db dl du dq dw E ek eb el t1 t2 t3 t4 t5 t6)))] (some (.int 1)) := by
  refine WC.ofW (cc := cX8_isThere) (maxL := 2) (ret := (some .boolean)) (by decide) rfl (Nat.le_of_ble_eq_true rfl) ?_
  intro p e s m below meth c S9 hr hlocks hPB hD hS ls hl
  obtain ⟨hx, hb, hml, hown, hts⟩ := id S9
  obtain ⟨hP, hK⟩ := hPB
  have hl : lv_has ls 2 [(0, .ref am), (1, .int 1)] := hl
  have hi12 : ∀ w ∈ wsX80, w ∈ wsX8_isThere := by decide +kernel
  have hf42 := hts (.fieldLink RX8 42 "BathLeagueModel" "thrown" "I") (by decide +kernel)
  refine lv_aload_n hx hb dX8_isThere_0 rfl (lv_at hl 0 rfl) ?_
  refine lv_iload_n hx hb dX8_isThere_1 rfl (lv_at hl 1 rfl) ?_
  refine lv_if_eq (tgt := 9) hx hb dX8_isThere_2 (by decide) (fun c_1 => ?_) (fun c_1 => ?_)
  · exact absurd c_1 (by decide)
  · refine lv_iconst (v := 0) hx hb dX8_isThere_5 (by decide) ?_
    refine lv_goto (tgt := 10) hx hb dX8_isThere_6 (by decide) ?_
    refine va_put (D := G) (ci := 12) (v := .int 0) (ty := .int) (C := RX8) (T := TX8) (N := 18) hx hb hts hi12 tyX8 tyX8_ok nmX8 hown hK.1 hP hD hS 0 rfl rfl 7 (by decide) hf42 (fun _ h9 => h9) rfl (by decide +kernel) rfl rfl (Nat.le_of_ble_eq_true rfl) dX8_isThere_10 (fun H locs hP hD hS => ?_)
    have hP : va_P G vwCl [(am, .inr (12, [.ref aS, .ref aBf, .ref aAs, .ref aSv, .int iS, .ref aPa, .int (nI K), .int 0, .ref aOu, .int (nI OM), .ref aTx, .int (nI LN), .int (nI PO), .int iw, .int ea, .int fa, .ref aCo, .int (nI CM)])), (aS, .inl (cy 2, 89, .inl (encT N v h pl me M db dl du dq dw E ek eb el t1 t2 t3 t4 t5 t6)))] H := hP
    have hD : va_D (wA [(am, .inr (12, [.ref aS, .ref aBf, .ref aAs, .ref aSv, .int iS, .ref aPa, .int (nI K), .int th, .ref aOu, .int (nI OM), .ref aTx, .int (nI LN), .int (nI PO), .int iw, .int ea, .int fa, .ref aCo, .int (nI CM)])), (aS, .inl (cy 2, 89, .inl (encT N v h pl me M db dl du dq dw E ek eb el t1 t2 t3 t4 t5 t6)))]) [(am, .inr (12, [.ref aS, .ref aBf, .ref aAs, .ref aSv, .int iS, .ref aPa, .int (nI K), .int 0, .ref aOu, .int (nI OM), .ref aTx, .int (nI LN), .int (nI PO), .int iw, .int ea, .int fa, .ref aCo, .int (nI CM)])), (aS, .inl (cy 2, 89, .inl (encT N v h pl me M db dl du dq dw E ek eb el t1 t2 t3 t4 t5 t6)))] := hD
    refine lv_iload_n hx hb dX8_isThere_13 rfl (lv_at hl 1 rfl) ?_
    exact wc_zret hx hb hr hlocks hP hS (by first | rfl | (split <;> rfl)) rfl dX8_isThere_14

set_option maxRecDepth 100000 in
set_option maxHeartbeats 1000000 in
theorem c_X8_isBath (l : Launch) (G : va_G) (cy : Nat → ClassId) (am aS aBf aAs aSv aPa aOu aTx aCo K OM LN PO CM : Nat) (iS th iw ea fa : Int32) (N : Nat) (v h pl me : Nat → Int32) (M : Nat) (db dl du dq dw : Nat → Int32) (E : Nat) (ek eb el : Nat → Int32) (t1 t2 t3 t4 t5 t6 b : Int32) (hN : N ≤ 5) : RO l yX8_isBath wsX8_isBath { frames := 1, cells := 0, slots := 0, locals := 22 } (PB G cy [(am, .inr (12, [.ref aS, .ref aBf, .ref aAs, .ref aSv, .int iS, .ref aPa, .int (nI K), .int th, .ref aOu, .int (nI OM), .ref aTx, .int (nI LN), .int (nI PO), .int iw, .int ea, .int fa, .ref aCo, .int (nI CM)])), (aS, .inl (cy 2, 89, .inl (encT N v h pl me M db dl du dq dw E ek eb el t1 t2 t3 t4 t5 t6)))]) [.ref am, .int b] (some (.int (if inI b (nI N) = true then 1 else 0))) := by
  refine RO.ofW (cc := cX8_isBath) (maxL := 2) (ret := (some .boolean)) (by decide) rfl (Nat.le_of_ble_eq_true rfl) ?_
  intro p e s m below meth c S9 hr hlocks hPB ls hl
  obtain ⟨hx, hb, hml, hown, hts⟩ := id S9
  obtain ⟨hP, hK⟩ := hPB
  have hl : lv_has ls 2 [(0, .ref am), (1, .int b)] := hl
  have hi12 : ∀ w ∈ wsX80, w ∈ wsX8_isBath := by decide +kernel
  have hf9 := hts (.fieldLink RX8 9 "BathLeagueModel" "s" "[I") (by decide +kernel)
  refine lv_iload_n hx hb dX8_isBath_0 rfl (lv_at hl 1 rfl) ?_
  refine lv_iconst (v := 0) hx hb dX8_isBath_1 (by decide) ?_
  refine lv_aload_n hx hb dX8_isBath_2 rfl (lv_at hl 0 rfl) ?_
  refine va_get (D := G) (ci := 12) (v := .ref aS) (C := RX8) (T := TX8) (N := 18) hx hb hts hi12 hown hK.1 hP 0 rfl rfl 0 (by decide) hf9 (fun _ h9 => h9) rfl dX8_isBath_3 ?_
  refine lv_iconst (v := 0) hx hb dX8_isBath_6 (by decide) ?_
  refine m_iald hx hb hK hP 1 (k := 0) rfl rfl (by omega) (Nat.le_of_ble_eq_true rfl) dX8_isBath_7 ?_
  refine lv_t0 (encR_0 rfl) ?_
  refine lv_iconst (v := 1) hx hb dX8_isBath_8 (by decide) ?_
  refine lv_isub hx hb dX8_isBath_9 ?_
  refine c_roSi S9 (c_X8_in l G cy b 0 ((nI N) - 1)) (va_cwS 3 hts gX8_isBath_X8_in rfl rfl rfl (by decide +kernel) ⟨Nat.le_of_ble_eq_true rfl, Nat.le_of_ble_eq_true rfl⟩) PB.blind (PB.at hK (m_Ppart hP [] rfl)) rfl hl.1 rfl (Nat.le_of_ble_eq_true rfl) ⟨Nat.zero_le _, Nat.zero_le _⟩ dX8_isBath_10 ?_
  exact ro_zret hx hb hr hlocks (by first | rfl | (split <;> rfl)) (by simp only [inR_inI b (show N < 1000 by omega)]) dX8_isBath_13

set_option maxRecDepth 100000 in
set_option maxHeartbeats 1000000 in
theorem c_X8_isDuck (l : Launch) (G : va_G) (cy : Nat → ClassId) (am aS aBf aAs aSv aPa aOu aTx aCo K OM LN PO CM : Nat) (iS th iw ea fa : Int32) (N : Nat) (v h pl me : Nat → Int32) (M : Nat) (db dl du dq dw : Nat → Int32) (E : Nat) (ek eb el : Nat → Int32) (t1 t2 t3 t4 t5 t6 b : Int32) (hM : M ≤ 6) : RO l yX8_isDuck wsX8_isDuck { frames := 1, cells := 0, slots := 0, locals := 22 } (PB G cy [(am, .inr (12, [.ref aS, .ref aBf, .ref aAs, .ref aSv, .int iS, .ref aPa, .int (nI K), .int th, .ref aOu, .int (nI OM), .ref aTx, .int (nI LN), .int (nI PO), .int iw, .int ea, .int fa, .ref aCo, .int (nI CM)])), (aS, .inl (cy 2, 89, .inl (encT N v h pl me M db dl du dq dw E ek eb el t1 t2 t3 t4 t5 t6)))]) [.ref am, .int b] (some (.int (if inI b (nI M) = true then 1 else 0))) := by
  refine RO.ofW (cc := cX8_isDuck) (maxL := 2) (ret := (some .boolean)) (by decide) rfl (Nat.le_of_ble_eq_true rfl) ?_
  intro p e s m below meth c S9 hr hlocks hPB ls hl
  obtain ⟨hx, hb, hml, hown, hts⟩ := id S9
  obtain ⟨hP, hK⟩ := hPB
  have hl : lv_has ls 2 [(0, .ref am), (1, .int b)] := hl
  have hi12 : ∀ w ∈ wsX80, w ∈ wsX8_isDuck := by decide +kernel
  have hf9 := hts (.fieldLink RX8 9 "BathLeagueModel" "s" "[I") (by decide +kernel)
  refine lv_iload_n hx hb dX8_isDuck_0 rfl (lv_at hl 1 rfl) ?_
  refine lv_iconst (v := 0) hx hb dX8_isDuck_1 (by decide) ?_
  refine lv_aload_n hx hb dX8_isDuck_2 rfl (lv_at hl 0 rfl) ?_
  refine va_get (D := G) (ci := 12) (v := .ref aS) (C := RX8) (T := TX8) (N := 18) hx hb hts hi12 hown hK.1 hP 0 rfl rfl 0 (by decide) hf9 (fun _ h9 => h9) rfl dX8_isDuck_3 ?_
  refine lv_iconst (v := 1) hx hb dX8_isDuck_6 (by decide) ?_
  refine m_iald hx hb hK hP 1 (k := 1) rfl rfl (by omega) (Nat.le_of_ble_eq_true rfl) dX8_isDuck_7 ?_
  refine lv_t0 (encR_1 rfl) ?_
  refine lv_iconst (v := 1) hx hb dX8_isDuck_8 (by decide) ?_
  refine lv_isub hx hb dX8_isDuck_9 ?_
  refine c_roSi S9 (c_X8_in l G cy b 0 ((nI M) - 1)) (va_cwS 3 hts gX8_isDuck_X8_in rfl rfl rfl (by decide +kernel) ⟨Nat.le_of_ble_eq_true rfl, Nat.le_of_ble_eq_true rfl⟩) PB.blind (PB.at hK (m_Ppart hP [] rfl)) rfl hl.1 rfl (Nat.le_of_ble_eq_true rfl) ⟨Nat.zero_le _, Nat.zero_le _⟩ dX8_isDuck_10 ?_
  exact ro_zret hx hb hr hlocks (by first | rfl | (split <;> rfl)) (by simp only [inR_inI b (show M < 1000 by omega)]) dX8_isDuck_13

set_option maxRecDepth 100000 in
set_option maxHeartbeats 1000000 in
theorem c_X8_isEvent (l : Launch) (G : va_G) (cy : Nat → ClassId) (am aS aBf aAs aSv aPa aOu aTx aCo K OM LN PO CM : Nat) (iS th iw ea fa : Int32) (N : Nat) (v h pl me : Nat → Int32) (M : Nat) (db dl du dq dw : Nat → Int32) (E : Nat) (ek eb el : Nat → Int32) (t1 t2 t3 t4 t5 t6 b : Int32) (hE : E ≤ 10) : RO l yX8_isEvent wsX8_isEvent { frames := 1, cells := 0, slots := 0, locals := 22 } (PB G cy [(am, .inr (12, [.ref aS, .ref aBf, .ref aAs, .ref aSv, .int iS, .ref aPa, .int (nI K), .int th, .ref aOu, .int (nI OM), .ref aTx, .int (nI LN), .int (nI PO), .int iw, .int ea, .int fa, .ref aCo, .int (nI CM)])), (aS, .inl (cy 2, 89, .inl (encT N v h pl me M db dl du dq dw E ek eb el t1 t2 t3 t4 t5 t6)))]) [.ref am, .int b] (some (.int (if inI b (nI E) = true then 1 else 0))) := by
  refine RO.ofW (cc := cX8_isEvent) (maxL := 2) (ret := (some .boolean)) (by decide) rfl (Nat.le_of_ble_eq_true rfl) ?_
  intro p e s m below meth c S9 hr hlocks hPB ls hl
  obtain ⟨hx, hb, hml, hown, hts⟩ := id S9
  obtain ⟨hP, hK⟩ := hPB
  have hl : lv_has ls 2 [(0, .ref am), (1, .int b)] := hl
  have hi12 : ∀ w ∈ wsX80, w ∈ wsX8_isEvent := by decide +kernel
  have hf9 := hts (.fieldLink RX8 9 "BathLeagueModel" "s" "[I") (by decide +kernel)
  refine lv_iload_n hx hb dX8_isEvent_0 rfl (lv_at hl 1 rfl) ?_
  refine lv_iconst (v := 0) hx hb dX8_isEvent_1 (by decide) ?_
  refine lv_aload_n hx hb dX8_isEvent_2 rfl (lv_at hl 0 rfl) ?_
  refine va_get (D := G) (ci := 12) (v := .ref aS) (C := RX8) (T := TX8) (N := 18) hx hb hts hi12 hown hK.1 hP 0 rfl rfl 0 (by decide) hf9 (fun _ h9 => h9) rfl dX8_isEvent_3 ?_
  refine lv_iconst (v := 2) hx hb dX8_isEvent_6 (by decide) ?_
  refine m_iald hx hb hK hP 1 (k := 2) rfl rfl (by omega) (Nat.le_of_ble_eq_true rfl) dX8_isEvent_7 ?_
  refine lv_t0 (encR_2 rfl) ?_
  refine lv_iconst (v := 1) hx hb dX8_isEvent_8 (by decide) ?_
  refine lv_isub hx hb dX8_isEvent_9 ?_
  refine c_roSi S9 (c_X8_in l G cy b 0 ((nI E) - 1)) (va_cwS 3 hts gX8_isEvent_X8_in rfl rfl rfl (by decide +kernel) ⟨Nat.le_of_ble_eq_true rfl, Nat.le_of_ble_eq_true rfl⟩) PB.blind (PB.at hK (m_Ppart hP [] rfl)) rfl hl.1 rfl (Nat.le_of_ble_eq_true rfl) ⟨Nat.zero_le _, Nat.zero_le _⟩ dX8_isEvent_10 ?_
  exact ro_zret hx hb hr hlocks (by first | rfl | (split <;> rfl)) (by simp only [inR_inI b (show E < 1000 by omega)]) dX8_isEvent_13

set_option maxRecDepth 100000 in
set_option maxHeartbeats 1000000 in
theorem c_X8_of_v (l : Launch) (G : va_G) (cy : Nat → ClassId) (am aS aBf aAs aSv aPa aOu aTx aCo K OM LN PO CM : Nat) (iS th iw ea fa : Int32) (N : Nat) (v h pl me : Nat → Int32) (M : Nat) (db dl du dq dw : Nat → Int32) (E : Nat) (ek eb el : Nat → Int32) (t1 t2 t3 t4 t5 t6 : Int32) (b : Nat) (hb9 : b < 5) : RO l yX8_of wsX8_of { frames := 0, cells := 0, slots := 0, locals := 0 } (PB G cy [(am, .inr (12, [.ref aS, .ref aBf, .ref aAs, .ref aSv, .int iS, .ref aPa, .int (nI K), .int th, .ref aOu, .int (nI OM), .ref aTx, .int (nI LN), .int (nI PO), .int iw, .int ea, .int fa, .ref aCo, .int (nI CM)])), (aS, .inl (cy 2, 89, .inl (encT N v h pl me M db dl du dq dw E ek eb el t1 t2 t3 t4 t5 t6)))]) [.ref am, .int (nI b), .int 0] (some (.int (v b))) := by
  refine RO.ofW (cc := cX8_of) (maxL := 3) (ret := (some .int)) (by decide) rfl (Nat.le_of_ble_eq_true rfl) ?_
  intro p e s m below meth c S9 hr hlocks hPB ls hl
  obtain ⟨hx, hb, hml, hown, hts⟩ := id S9
  obtain ⟨hP, hK⟩ := hPB
  have hl : lv_has ls 3 [(0, .ref am), (1, .int (nI b)), (2, .int 0)] := hl
  have hi12 : ∀ w ∈ wsX80, w ∈ wsX8_of := by decide +kernel
  have hf9 := hts (.fieldLink RX8 9 "BathLeagueModel" "s" "[I") (by decide +kernel)
  refine lv_aload_n hx hb dX8_of_0 rfl (lv_at hl 0 rfl) ?_
  refine va_get (D := G) (ci := 12) (v := .ref aS) (C := RX8) (T := TX8) (N := 18) hx hb hts hi12 hown hK.1 hP 0 rfl rfl 0 (by decide) hf9 (fun _ h9 => h9) rfl dX8_of_1 ?_
  refine lv_bipush (v := 9) hx hb dX8_of_4 (by decide) ?_
  refine lv_iconst (v := 4) hx hb dX8_of_6 (by decide) ?_
  refine lv_iload_n hx hb dX8_of_7 rfl (lv_at hl 1 rfl) ?_
  refine lv_imul hx hb dX8_of_8 ?_
  refine lv_iadd hx hb dX8_of_9 ?_
  refine lv_iload_n hx hb dX8_of_10 rfl (lv_at hl 2 rfl) ?_
  refine lv_iadd hx hb dX8_of_11 ?_
  refine m_iald hx hb hK hP 1 (k := (9 + (4 * b)) + 0) rfl (m_add (m_add rfl (m_mul rfl rfl)) rfl) (by omega) (Nat.le_of_ble_eq_true rfl) dX8_of_12 ?_
  refine lv_t0 (encR_v (b := b) (by omega) (by omega)) ?_
  exact ro_iret hx hb hr hlocks rfl dX8_of_13

set_option maxRecDepth 100000 in
set_option maxHeartbeats 1000000 in
theorem c_X8_of_h (l : Launch) (G : va_G) (cy : Nat → ClassId) (am aS aBf aAs aSv aPa aOu aTx aCo K OM LN PO CM : Nat) (iS th iw ea fa : Int32) (N : Nat) (v h pl me : Nat → Int32) (M : Nat) (db dl du dq dw : Nat → Int32) (E : Nat) (ek eb el : Nat → Int32) (t1 t2 t3 t4 t5 t6 : Int32) (b : Nat) (hb9 : b < 5) : RO l yX8_of wsX8_of { frames := 0, cells := 0, slots := 0, locals := 0 } (PB G cy [(am, .inr (12, [.ref aS, .ref aBf, .ref aAs, .ref aSv, .int iS, .ref aPa, .int (nI K), .int th, .ref aOu, .int (nI OM), .ref aTx, .int (nI LN), .int (nI PO), .int iw, .int ea, .int fa, .ref aCo, .int (nI CM)])), (aS, .inl (cy 2, 89, .inl (encT N v h pl me M db dl du dq dw E ek eb el t1 t2 t3 t4 t5 t6)))]) [.ref am, .int (nI b), .int 1] (some (.int (h b))) := by
  refine RO.ofW (cc := cX8_of) (maxL := 3) (ret := (some .int)) (by decide) rfl (Nat.le_of_ble_eq_true rfl) ?_
  intro p e s m below meth c S9 hr hlocks hPB ls hl
  obtain ⟨hx, hb, hml, hown, hts⟩ := id S9
  obtain ⟨hP, hK⟩ := hPB
  have hl : lv_has ls 3 [(0, .ref am), (1, .int (nI b)), (2, .int 1)] := hl
  have hi12 : ∀ w ∈ wsX80, w ∈ wsX8_of := by decide +kernel
  have hf9 := hts (.fieldLink RX8 9 "BathLeagueModel" "s" "[I") (by decide +kernel)
  refine lv_aload_n hx hb dX8_of_0 rfl (lv_at hl 0 rfl) ?_
  refine va_get (D := G) (ci := 12) (v := .ref aS) (C := RX8) (T := TX8) (N := 18) hx hb hts hi12 hown hK.1 hP 0 rfl rfl 0 (by decide) hf9 (fun _ h9 => h9) rfl dX8_of_1 ?_
  refine lv_bipush (v := 9) hx hb dX8_of_4 (by decide) ?_
  refine lv_iconst (v := 4) hx hb dX8_of_6 (by decide) ?_
  refine lv_iload_n hx hb dX8_of_7 rfl (lv_at hl 1 rfl) ?_
  refine lv_imul hx hb dX8_of_8 ?_
  refine lv_iadd hx hb dX8_of_9 ?_
  refine lv_iload_n hx hb dX8_of_10 rfl (lv_at hl 2 rfl) ?_
  refine lv_iadd hx hb dX8_of_11 ?_
  refine m_iald hx hb hK hP 1 (k := (9 + (4 * b)) + 1) rfl (m_add (m_add rfl (m_mul rfl rfl)) rfl) (by omega) (Nat.le_of_ble_eq_true rfl) dX8_of_12 ?_
  refine lv_t0 (encR_h (b := b) (by omega) (by omega)) ?_
  exact ro_iret hx hb hr hlocks rfl dX8_of_13

set_option maxRecDepth 100000 in
set_option maxHeartbeats 1000000 in
theorem c_X8_of_o (l : Launch) (G : va_G) (cy : Nat → ClassId) (am aS aBf aAs aSv aPa aOu aTx aCo K OM LN PO CM : Nat) (iS th iw ea fa : Int32) (N : Nat) (v h pl me : Nat → Int32) (M : Nat) (db dl du dq dw : Nat → Int32) (E : Nat) (ek eb el : Nat → Int32) (t1 t2 t3 t4 t5 t6 : Int32) (b : Nat) (hb9 : b < 5) : RO l yX8_of wsX8_of { frames := 0, cells := 0, slots := 0, locals := 0 } (PB G cy [(am, .inr (12, [.ref aS, .ref aBf, .ref aAs, .ref aSv, .int iS, .ref aPa, .int (nI K), .int th, .ref aOu, .int (nI OM), .ref aTx, .int (nI LN), .int (nI PO), .int iw, .int ea, .int fa, .ref aCo, .int (nI CM)])), (aS, .inl (cy 2, 89, .inl (encT N v h pl me M db dl du dq dw E ek eb el t1 t2 t3 t4 t5 t6)))]) [.ref am, .int (nI b), .int 2] (some (.int (if pl b = 0 ∧ b < N then 1 else 0))) := by
  refine RO.ofW (cc := cX8_of) (maxL := 3) (ret := (some .int)) (by decide) rfl (Nat.le_of_ble_eq_true rfl) ?_
  intro p e s m below meth c S9 hr hlocks hPB ls hl
  obtain ⟨hx, hb, hml, hown, hts⟩ := id S9
  obtain ⟨hP, hK⟩ := hPB
  have hl : lv_has ls 3 [(0, .ref am), (1, .int (nI b)), (2, .int 2)] := hl
  have hi12 : ∀ w ∈ wsX80, w ∈ wsX8_of := by decide +kernel
  have hf9 := hts (.fieldLink RX8 9 "BathLeagueModel" "s" "[I") (by decide +kernel)
  refine lv_aload_n hx hb dX8_of_0 rfl (lv_at hl 0 rfl) ?_
  refine va_get (D := G) (ci := 12) (v := .ref aS) (C := RX8) (T := TX8) (N := 18) hx hb hts hi12 hown hK.1 hP 0 rfl rfl 0 (by decide) hf9 (fun _ h9 => h9) rfl dX8_of_1 ?_
  refine lv_bipush (v := 9) hx hb dX8_of_4 (by decide) ?_
  refine lv_iconst (v := 4) hx hb dX8_of_6 (by decide) ?_
  refine lv_iload_n hx hb dX8_of_7 rfl (lv_at hl 1 rfl) ?_
  refine lv_imul hx hb dX8_of_8 ?_
  refine lv_iadd hx hb dX8_of_9 ?_
  refine lv_iload_n hx hb dX8_of_10 rfl (lv_at hl 2 rfl) ?_
  refine lv_iadd hx hb dX8_of_11 ?_
  refine m_iald hx hb hK hP 1 (k := (9 + (4 * b)) + 2) rfl (m_add (m_add rfl (m_mul rfl rfl)) rfl) (by omega) (Nat.le_of_ble_eq_true rfl) dX8_of_12 ?_
  refine lv_t0 (encR_o (b := b) (by omega) (by omega)) ?_
  exact ro_iret hx hb hr hlocks rfl dX8_of_13

set_option maxRecDepth 100000 in
set_option maxHeartbeats 1000000 in
theorem c_X8_of_m (l : Launch) (G : va_G) (cy : Nat → ClassId) (am aS aBf aAs aSv aPa aOu aTx aCo K OM LN PO CM : Nat) (iS th iw ea fa : Int32) (N : Nat) (v h pl me : Nat → Int32) (M : Nat) (db dl du dq dw : Nat → Int32) (E : Nat) (ek eb el : Nat → Int32) (t1 t2 t3 t4 t5 t6 : Int32) (b : Nat) (hb9 : b < 5) : RO l yX8_of wsX8_of { frames := 0, cells := 0, slots := 0, locals := 0 } (PB G cy [(am, .inr (12, [.ref aS, .ref aBf, .ref aAs, .ref aSv, .int iS, .ref aPa, .int (nI K), .int th, .ref aOu, .int (nI OM), .ref aTx, .int (nI LN), .int (nI PO), .int iw, .int ea, .int fa, .ref aCo, .int (nI CM)])), (aS, .inl (cy 2, 89, .inl (encT N v h pl me M db dl du dq dw E ek eb el t1 t2 t3 t4 t5 t6)))]) [.ref am, .int (nI b), .int 3] (some (.int (me b))) := by
  refine RO.ofW (cc := cX8_of) (maxL := 3) (ret := (some .int)) (by decide) rfl (Nat.le_of_ble_eq_true rfl) ?_
  intro p e s m below meth c S9 hr hlocks hPB ls hl
  obtain ⟨hx, hb, hml, hown, hts⟩ := id S9
  obtain ⟨hP, hK⟩ := hPB
  have hl : lv_has ls 3 [(0, .ref am), (1, .int (nI b)), (2, .int 3)] := hl
  have hi12 : ∀ w ∈ wsX80, w ∈ wsX8_of := by decide +kernel
  have hf9 := hts (.fieldLink RX8 9 "BathLeagueModel" "s" "[I") (by decide +kernel)
  refine lv_aload_n hx hb dX8_of_0 rfl (lv_at hl 0 rfl) ?_
  refine va_get (D := G) (ci := 12) (v := .ref aS) (C := RX8) (T := TX8) (N := 18) hx hb hts hi12 hown hK.1 hP 0 rfl rfl 0 (by decide) hf9 (fun _ h9 => h9) rfl dX8_of_1 ?_
  refine lv_bipush (v := 9) hx hb dX8_of_4 (by decide) ?_
  refine lv_iconst (v := 4) hx hb dX8_of_6 (by decide) ?_
  refine lv_iload_n hx hb dX8_of_7 rfl (lv_at hl 1 rfl) ?_
  refine lv_imul hx hb dX8_of_8 ?_
  refine lv_iadd hx hb dX8_of_9 ?_
  refine lv_iload_n hx hb dX8_of_10 rfl (lv_at hl 2 rfl) ?_
  refine lv_iadd hx hb dX8_of_11 ?_
  refine m_iald hx hb hK hP 1 (k := (9 + (4 * b)) + 3) rfl (m_add (m_add rfl (m_mul rfl rfl)) rfl) (by omega) (Nat.le_of_ble_eq_true rfl) dX8_of_12 ?_
  refine lv_t0 (encR_m (b := b) (by omega) (by omega)) ?_
  exact ro_iret hx hb hr hlocks rfl dX8_of_13

set_option maxRecDepth 100000 in
set_option maxHeartbeats 1000000 in
theorem c_X8_sets_v (l : Launch) (G : va_G) (cy : Nat → ClassId) (am aS aBf aAs aSv aPa aOu aTx aCo K OM LN PO CM : Nat) (iS th iw ea fa : Int32) (N : Nat) (v h pl me : Nat → Int32) (M : Nat) (db dl du dq dw : Nat → Int32) (E : Nat) (ek eb el : Nat → Int32) (t1 t2 t3 t4 t5 t6 : Int32) (b : Nat) (x : Int32) (hb9 : b < 5) : WC l yX8_sets wsX8_sets { frames := 0, cells := 0, slots := 0, locals := 0 } G (PB G cy [(am, .inr (12, [.ref aS, .ref aBf, .ref aAs, .ref aSv, .int iS, .ref aPa, .int (nI K), .int th, .ref aOu, .int (nI OM), .ref aTx, .int (nI LN), .int (nI PO), .int iw, .int ea, .int fa, .ref aCo, .int (nI CM)])), (aS, .inl (cy 2, 89, .inl (encT N v h pl me M db dl du dq dw E ek eb el t1 t2 t3 t4 t5 t6)))]) [.ref am, .int (nI b), .int 0, .int x] [(am, .inr (12, [.ref aS, .ref aBf, .ref aAs, .ref aSv, .int iS, .ref aPa, .int (nI K), .int th, .ref aOu, .int (nI OM), .ref aTx, .int (nI LN), .int (nI PO), .int iw, .int ea, .int fa, .ref aCo, .int (nI CM)])), (aS, .inl (cy 2, 89, .inl (encT N v h pl me M db dl du dq dw E ek eb el t1 t2 t3 t4 t5 t6)))] [(am, .inr (12, [.ref aS, .ref aBf, .ref aAs, .ref aSv, .int iS, .ref aPa, .int (nI K), .int th, .ref aOu, .int (nI OM), .ref aTx, .int (nI LN), .int (nI PO), .int iw, .int ea, .int fa, .ref aCo, .int (nI CM)])), (aS, .inl (cy 2, 89, .inl (encT N (upd v b x) h pl me M db dl du dq dw E ek eb el t1 t2 t3 t4 t5 t6)))] (none) := by
  refine WC.ofW (cc := cX8_sets) (maxL := 4) (ret := none) (by decide) rfl (Nat.le_of_ble_eq_true rfl) ?_
  intro p e s m below meth c S9 hr hlocks hPB hD hS ls hl
  obtain ⟨hx, hb, hml, hown, hts⟩ := id S9
  obtain ⟨hP, hK⟩ := hPB
  have hl : lv_has ls 4 [(0, .ref am), (1, .int (nI b)), (2, .int 0), (3, .int x)] := hl
  have hi12 : ∀ w ∈ wsX80, w ∈ wsX8_sets := by decide +kernel
  have hf9 := hts (.fieldLink RX8 9 "BathLeagueModel" "s" "[I") (by decide +kernel)
  refine lv_aload_n hx hb dX8_sets_0 rfl (lv_at hl 0 rfl) ?_
  refine va_get (D := G) (ci := 12) (v := .ref aS) (C := RX8) (T := TX8) (N := 18) hx hb hts hi12 hown hK.1 hP 0 rfl rfl 0 (by decide) hf9 (fun _ h9 => h9) rfl dX8_sets_1 ?_
  refine lv_bipush (v := 9) hx hb dX8_sets_4 (by decide) ?_
  refine lv_iconst (v := 4) hx hb dX8_sets_6 (by decide) ?_
  refine lv_iload_n hx hb dX8_sets_7 rfl (lv_at hl 1 rfl) ?_
  refine lv_imul hx hb dX8_sets_8 ?_
  refine lv_iadd hx hb dX8_sets_9 ?_
  refine lv_iload_n hx hb dX8_sets_10 rfl (lv_at hl 2 rfl) ?_
  refine lv_iadd hx hb dX8_sets_11 ?_
  refine lv_iload_n hx hb dX8_sets_12 rfl (lv_at hl 3 rfl) ?_
  refine m_iast hx hb hK hP hD hS 1 (k := (9 + (4 * b)) + 0) rfl (m_add (m_add rfl (m_mul rfl rfl)) rfl) (by omega) (Nat.le_of_ble_eq_true rfl) dX8_sets_13 (fun H locs hP hD hS => ?_)
  rw [encU_v (j := ((9 + (4 * b)) + 0)) (b := b) (by omega) (by omega)] at hP hD
  have hP : va_P G vwCl [(am, .inr (12, [.ref aS, .ref aBf, .ref aAs, .ref aSv, .int iS, .ref aPa, .int (nI K), .int th, .ref aOu, .int (nI OM), .ref aTx, .int (nI LN), .int (nI PO), .int iw, .int ea, .int fa, .ref aCo, .int (nI CM)])), (aS, .inl (cy 2, 89, .inl (encT N (upd v b x) h pl me M db dl du dq dw E ek eb el t1 t2 t3 t4 t5 t6)))] H := hP
  have hD : va_D (wA [(am, .inr (12, [.ref aS, .ref aBf, .ref aAs, .ref aSv, .int iS, .ref aPa, .int (nI K), .int th, .ref aOu, .int (nI OM), .ref aTx, .int (nI LN), .int (nI PO), .int iw, .int ea, .int fa, .ref aCo, .int (nI CM)])), (aS, .inl (cy 2, 89, .inl (encT N v h pl me M db dl du dq dw E ek eb el t1 t2 t3 t4 t5 t6)))]) [(am, .inr (12, [.ref aS, .ref aBf, .ref aAs, .ref aSv, .int iS, .ref aPa, .int (nI K), .int th, .ref aOu, .int (nI OM), .ref aTx, .int (nI LN), .int (nI PO), .int iw, .int ea, .int fa, .ref aCo, .int (nI CM)])), (aS, .inl (cy 2, 89, .inl (encT N (upd v b x) h pl me M db dl du dq dw E ek eb el t1 t2 t3 t4 t5 t6)))] := hD
  exact wc_vret hx hb hr hlocks hP hS dX8_sets_14

set_option maxRecDepth 100000 in
set_option maxHeartbeats 1000000 in
theorem c_X8_sets_h (l : Launch) (G : va_G) (cy : Nat → ClassId) (am aS aBf aAs aSv aPa aOu aTx aCo K OM LN PO CM : Nat) (iS th iw ea fa : Int32) (N : Nat) (v h pl me : Nat → Int32) (M : Nat) (db dl du dq dw : Nat → Int32) (E : Nat) (ek eb el : Nat → Int32) (t1 t2 t3 t4 t5 t6 : Int32) (b : Nat) (x : Int32) (hb9 : b < 5) : WC l yX8_sets wsX8_sets { frames := 0, cells := 0, slots := 0, locals := 0 } G (PB G cy [(am, .inr (12, [.ref aS, .ref aBf, .ref aAs, .ref aSv, .int iS, .ref aPa, .int (nI K), .int th, .ref aOu, .int (nI OM), .ref aTx, .int (nI LN), .int (nI PO), .int iw, .int ea, .int fa, .ref aCo, .int (nI CM)])), (aS, .inl (cy 2, 89, .inl (encT N v h pl me M db dl du dq dw E ek eb el t1 t2 t3 t4 t5 t6)))]) [.ref am, .int (nI b), .int 1, .int x] [(am, .inr (12, [.ref aS, .ref aBf, .ref aAs, .ref aSv, .int iS, .ref aPa, .int (nI K), .int th, .ref aOu, .int (nI OM), .ref aTx, .int (nI LN), .int (nI PO), .int iw, .int ea, .int fa, .ref aCo, .int (nI CM)])), (aS, .inl (cy 2, 89, .inl (encT N v h pl me M db dl du dq dw E ek eb el t1 t2 t3 t4 t5 t6)))] [(am, .inr (12, [.ref aS, .ref aBf, .ref aAs, .ref aSv, .int iS, .ref aPa, .int (nI K), .int th, .ref aOu, .int (nI OM), .ref aTx, .int (nI LN), .int (nI PO), .int iw, .int ea, .int fa, .ref aCo, .int (nI CM)])), (aS, .inl (cy 2, 89, .inl (encT N v (upd h b x) pl me M db dl du dq dw E ek eb el t1 t2 t3 t4 t5 t6)))] (none) := by
  refine WC.ofW (cc := cX8_sets) (maxL := 4) (ret := none) (by decide) rfl (Nat.le_of_ble_eq_true rfl) ?_
  intro p e s m below meth c S9 hr hlocks hPB hD hS ls hl
  obtain ⟨hx, hb, hml, hown, hts⟩ := id S9
  obtain ⟨hP, hK⟩ := hPB
  have hl : lv_has ls 4 [(0, .ref am), (1, .int (nI b)), (2, .int 1), (3, .int x)] := hl
  have hi12 : ∀ w ∈ wsX80, w ∈ wsX8_sets := by decide +kernel
  have hf9 := hts (.fieldLink RX8 9 "BathLeagueModel" "s" "[I") (by decide +kernel)
  refine lv_aload_n hx hb dX8_sets_0 rfl (lv_at hl 0 rfl) ?_
  refine va_get (D := G) (ci := 12) (v := .ref aS) (C := RX8) (T := TX8) (N := 18) hx hb hts hi12 hown hK.1 hP 0 rfl rfl 0 (by decide) hf9 (fun _ h9 => h9) rfl dX8_sets_1 ?_
  refine lv_bipush (v := 9) hx hb dX8_sets_4 (by decide) ?_
  refine lv_iconst (v := 4) hx hb dX8_sets_6 (by decide) ?_
  refine lv_iload_n hx hb dX8_sets_7 rfl (lv_at hl 1 rfl) ?_
  refine lv_imul hx hb dX8_sets_8 ?_
  refine lv_iadd hx hb dX8_sets_9 ?_
  refine lv_iload_n hx hb dX8_sets_10 rfl (lv_at hl 2 rfl) ?_
  refine lv_iadd hx hb dX8_sets_11 ?_
  refine lv_iload_n hx hb dX8_sets_12 rfl (lv_at hl 3 rfl) ?_
  refine m_iast hx hb hK hP hD hS 1 (k := (9 + (4 * b)) + 1) rfl (m_add (m_add rfl (m_mul rfl rfl)) rfl) (by omega) (Nat.le_of_ble_eq_true rfl) dX8_sets_13 (fun H locs hP hD hS => ?_)
  rw [encU_h (j := ((9 + (4 * b)) + 1)) (b := b) (by omega) (by omega)] at hP hD
  have hP : va_P G vwCl [(am, .inr (12, [.ref aS, .ref aBf, .ref aAs, .ref aSv, .int iS, .ref aPa, .int (nI K), .int th, .ref aOu, .int (nI OM), .ref aTx, .int (nI LN), .int (nI PO), .int iw, .int ea, .int fa, .ref aCo, .int (nI CM)])), (aS, .inl (cy 2, 89, .inl (encT N v (upd h b x) pl me M db dl du dq dw E ek eb el t1 t2 t3 t4 t5 t6)))] H := hP
  have hD : va_D (wA [(am, .inr (12, [.ref aS, .ref aBf, .ref aAs, .ref aSv, .int iS, .ref aPa, .int (nI K), .int th, .ref aOu, .int (nI OM), .ref aTx, .int (nI LN), .int (nI PO), .int iw, .int ea, .int fa, .ref aCo, .int (nI CM)])), (aS, .inl (cy 2, 89, .inl (encT N v h pl me M db dl du dq dw E ek eb el t1 t2 t3 t4 t5 t6)))]) [(am, .inr (12, [.ref aS, .ref aBf, .ref aAs, .ref aSv, .int iS, .ref aPa, .int (nI K), .int th, .ref aOu, .int (nI OM), .ref aTx, .int (nI LN), .int (nI PO), .int iw, .int ea, .int fa, .ref aCo, .int (nI CM)])), (aS, .inl (cy 2, 89, .inl (encT N v (upd h b x) pl me M db dl du dq dw E ek eb el t1 t2 t3 t4 t5 t6)))] := hD
  exact wc_vret hx hb hr hlocks hP hS dX8_sets_14

set_option maxRecDepth 100000 in
set_option maxHeartbeats 1000000 in
theorem c_X8_sets_m (l : Launch) (G : va_G) (cy : Nat → ClassId) (am aS aBf aAs aSv aPa aOu aTx aCo K OM LN PO CM : Nat) (iS th iw ea fa : Int32) (N : Nat) (v h pl me : Nat → Int32) (M : Nat) (db dl du dq dw : Nat → Int32) (E : Nat) (ek eb el : Nat → Int32) (t1 t2 t3 t4 t5 t6 : Int32) (b : Nat) (x : Int32) (hb9 : b < 5) : WC l yX8_sets wsX8_sets { frames := 0, cells := 0, slots := 0, locals := 0 } G (PB G cy [(am, .inr (12, [.ref aS, .ref aBf, .ref aAs, .ref aSv, .int iS, .ref aPa, .int (nI K), .int th, .ref aOu, .int (nI OM), .ref aTx, .int (nI LN), .int (nI PO), .int iw, .int ea, .int fa, .ref aCo, .int (nI CM)])), (aS, .inl (cy 2, 89, .inl (encT N v h pl me M db dl du dq dw E ek eb el t1 t2 t3 t4 t5 t6)))]) [.ref am, .int (nI b), .int 3, .int x] [(am, .inr (12, [.ref aS, .ref aBf, .ref aAs, .ref aSv, .int iS, .ref aPa, .int (nI K), .int th, .ref aOu, .int (nI OM), .ref aTx, .int (nI LN), .int (nI PO), .int iw, .int ea, .int fa, .ref aCo, .int (nI CM)])), (aS, .inl (cy 2, 89, .inl (encT N v h pl me M db dl du dq dw E ek eb el t1 t2 t3 t4 t5 t6)))] [(am, .inr (12, [.ref aS, .ref aBf, .ref aAs, .ref aSv, .int iS, .ref aPa, .int (nI K), .int th, .ref aOu, .int (nI OM), .ref aTx, .int (nI LN), .int (nI PO), .int iw, .int ea, .int fa, .ref aCo, .int (nI CM)])), (aS, .inl (cy 2, 89, .inl (encT N v h pl (upd me b x) M db dl du dq dw E ek eb el t1 t2 t3 t4 t5 t6)))] (none) := by
  refine WC.ofW (cc := cX8_sets) (maxL := 4) (ret := none) (by decide) rfl (Nat.le_of_ble_eq_true rfl) ?_
  intro p e s m below meth c S9 hr hlocks hPB hD hS ls hl
  obtain ⟨hx, hb, hml, hown, hts⟩ := id S9
  obtain ⟨hP, hK⟩ := hPB
  have hl : lv_has ls 4 [(0, .ref am), (1, .int (nI b)), (2, .int 3), (3, .int x)] := hl
  have hi12 : ∀ w ∈ wsX80, w ∈ wsX8_sets := by decide +kernel
  have hf9 := hts (.fieldLink RX8 9 "BathLeagueModel" "s" "[I") (by decide +kernel)
  refine lv_aload_n hx hb dX8_sets_0 rfl (lv_at hl 0 rfl) ?_
  refine va_get (D := G) (ci := 12) (v := .ref aS) (C := RX8) (T := TX8) (N := 18) hx hb hts hi12 hown hK.1 hP 0 rfl rfl 0 (by decide) hf9 (fun _ h9 => h9) rfl dX8_sets_1 ?_
  refine lv_bipush (v := 9) hx hb dX8_sets_4 (by decide) ?_
  refine lv_iconst (v := 4) hx hb dX8_sets_6 (by decide) ?_
  refine lv_iload_n hx hb dX8_sets_7 rfl (lv_at hl 1 rfl) ?_
  refine lv_imul hx hb dX8_sets_8 ?_
  refine lv_iadd hx hb dX8_sets_9 ?_
  refine lv_iload_n hx hb dX8_sets_10 rfl (lv_at hl 2 rfl) ?_
  refine lv_iadd hx hb dX8_sets_11 ?_
  refine lv_iload_n hx hb dX8_sets_12 rfl (lv_at hl 3 rfl) ?_
  refine m_iast hx hb hK hP hD hS 1 (k := (9 + (4 * b)) + 3) rfl (m_add (m_add rfl (m_mul rfl rfl)) rfl) (by omega) (Nat.le_of_ble_eq_true rfl) dX8_sets_13 (fun H locs hP hD hS => ?_)
  rw [encU_m (j := ((9 + (4 * b)) + 3)) (b := b) (by omega) (by omega)] at hP hD
  have hP : va_P G vwCl [(am, .inr (12, [.ref aS, .ref aBf, .ref aAs, .ref aSv, .int iS, .ref aPa, .int (nI K), .int th, .ref aOu, .int (nI OM), .ref aTx, .int (nI LN), .int (nI PO), .int iw, .int ea, .int fa, .ref aCo, .int (nI CM)])), (aS, .inl (cy 2, 89, .inl (encT N v h pl (upd me b x) M db dl du dq dw E ek eb el t1 t2 t3 t4 t5 t6)))] H := hP
  have hD : va_D (wA [(am, .inr (12, [.ref aS, .ref aBf, .ref aAs, .ref aSv, .int iS, .ref aPa, .int (nI K), .int th, .ref aOu, .int (nI OM), .ref aTx, .int (nI LN), .int (nI PO), .int iw, .int ea, .int fa, .ref aCo, .int (nI CM)])), (aS, .inl (cy 2, 89, .inl (encT N v h pl me M db dl du dq dw E ek eb el t1 t2 t3 t4 t5 t6)))]) [(am, .inr (12, [.ref aS, .ref aBf, .ref aAs, .ref aSv, .int iS, .ref aPa, .int (nI K), .int th, .ref aOu, .int (nI OM), .ref aTx, .int (nI LN), .int (nI PO), .int iw, .int ea, .int fa, .ref aCo, .int (nI CM)])), (aS, .inl (cy 2, 89, .inl (encT N v h pl (upd me b x) M db dl du dq dw E ek eb el t1 t2 t3 t4 t5 t6)))] := hD
  exact wc_vret hx hb hr hlocks hP hS dX8_sets_14

set_option maxRecDepth 100000 in
set_option maxHeartbeats 1000000 in
theorem c_X8_sets_o (l : Launch) (G : va_G) (cy : Nat → ClassId) (am aS aBf aAs aSv aPa aOu aTx aCo K OM LN PO CM : Nat) (iS th iw ea fa : Int32) (N : Nat) (v h pl me : Nat → Int32) (M : Nat) (db dl du dq dw : Nat → Int32) (E : Nat) (ek eb el : Nat → Int32) (t1 t2 t3 t4 t5 t6 : Int32) (b : Nat) (x y : Int32) (hb9 : b < 5) (hbN : b < N) (hy9 : x = if y = 0 then 1 else 0) : WC l yX8_sets wsX8_sets { frames := 0, cells := 0, slots := 0, locals := 0 } G (PB G cy [(am, .inr (12, [.ref aS, .ref aBf, .ref aAs, .ref aSv, .int iS, .ref aPa, .int (nI K), .int th, .ref aOu, .int (nI OM), .ref aTx, .int (nI LN), .int (nI PO), .int iw, .int ea, .int fa, .ref aCo, .int (nI CM)])), (aS, .inl (cy 2, 89, .inl (encT N v h pl me M db dl du dq dw E ek eb el t1 t2 t3 t4 t5 t6)))]) [.ref am, .int (nI b), .int 2, .int x] [(am, .inr (12, [.ref aS, .ref aBf, .ref aAs, .ref aSv, .int iS, .ref aPa, .int (nI K), .int th, .ref aOu, .int (nI OM), .ref aTx, .int (nI LN), .int (nI PO), .int iw, .int ea, .int fa, .ref aCo, .int (nI CM)])), (aS, .inl (cy 2, 89, .inl (encT N v h pl me M db dl du dq dw E ek eb el t1 t2 t3 t4 t5 t6)))] [(am, .inr (12, [.ref aS, .ref aBf, .ref aAs, .ref aSv, .int iS, .ref aPa, .int (nI K), .int th, .ref aOu, .int (nI OM), .ref aTx, .int (nI LN), .int (nI PO), .int iw, .int ea, .int fa, .ref aCo, .int (nI CM)])), (aS, .inl (cy 2, 89, .inl (encT N v h (upd pl b y) me M db dl du dq dw E ek eb el t1 t2 t3 t4 t5 t6)))] (none) := by
  refine WC.ofW (cc := cX8_sets) (maxL := 4) (ret := none) (by decide) rfl (Nat.le_of_ble_eq_true rfl) ?_
  intro p e s m below meth c S9 hr hlocks hPB hD hS ls hl
  obtain ⟨hx, hb, hml, hown, hts⟩ := id S9
  obtain ⟨hP, hK⟩ := hPB
  have hl : lv_has ls 4 [(0, .ref am), (1, .int (nI b)), (2, .int 2), (3, .int x)] := hl
  have hi12 : ∀ w ∈ wsX80, w ∈ wsX8_sets := by decide +kernel
  have hf9 := hts (.fieldLink RX8 9 "BathLeagueModel" "s" "[I") (by decide +kernel)
  refine lv_aload_n hx hb dX8_sets_0 rfl (lv_at hl 0 rfl) ?_
  refine va_get (D := G) (ci := 12) (v := .ref aS) (C := RX8) (T := TX8) (N := 18) hx hb hts hi12 hown hK.1 hP 0 rfl rfl 0 (by decide) hf9 (fun _ h9 => h9) rfl dX8_sets_1 ?_
  refine lv_bipush (v := 9) hx hb dX8_sets_4 (by decide) ?_
  refine lv_iconst (v := 4) hx hb dX8_sets_6 (by decide) ?_
  refine lv_iload_n hx hb dX8_sets_7 rfl (lv_at hl 1 rfl) ?_
  refine lv_imul hx hb dX8_sets_8 ?_
  refine lv_iadd hx hb dX8_sets_9 ?_
  refine lv_iload_n hx hb dX8_sets_10 rfl (lv_at hl 2 rfl) ?_
  refine lv_iadd hx hb dX8_sets_11 ?_
  refine lv_iload_n hx hb dX8_sets_12 rfl (lv_at hl 3 rfl) ?_
  refine m_iast hx hb hK hP hD hS 1 (k := (9 + (4 * b)) + 2) rfl (m_add (m_add rfl (m_mul rfl rfl)) rfl) (by omega) (Nat.le_of_ble_eq_true rfl) dX8_sets_13 (fun H locs hP hD hS => ?_)
  rw [encU_o (j := ((9 + (4 * b)) + 2)) (b := b) (y := y) (by omega) (by omega) (by omega) hy9] at hP hD
  have hP : va_P G vwCl [(am, .inr (12, [.ref aS, .ref aBf, .ref aAs, .ref aSv, .int iS, .ref aPa, .int (nI K), .int th, .ref aOu, .int (nI OM), .ref aTx, .int (nI LN), .int (nI PO), .int iw, .int ea, .int fa, .ref aCo, .int (nI CM)])), (aS, .inl (cy 2, 89, .inl (encT N v h (upd pl b y) me M db dl du dq dw E ek eb el t1 t2 t3 t4 t5 t6)))] H := hP
  have hD : va_D (wA [(am, .inr (12, [.ref aS, .ref aBf, .ref aAs, .ref aSv, .int iS, .ref aPa, .int (nI K), .int th, .ref aOu, .int (nI OM), .ref aTx, .int (nI LN), .int (nI PO), .int iw, .int ea, .int fa, .ref aCo, .int (nI CM)])), (aS, .inl (cy 2, 89, .inl (encT N v h pl me M db dl du dq dw E ek eb el t1 t2 t3 t4 t5 t6)))]) [(am, .inr (12, [.ref aS, .ref aBf, .ref aAs, .ref aSv, .int iS, .ref aPa, .int (nI K), .int th, .ref aOu, .int (nI OM), .ref aTx, .int (nI LN), .int (nI PO), .int iw, .int ea, .int fa, .ref aCo, .int (nI CM)])), (aS, .inl (cy 2, 89, .inl (encT N v h (upd pl b y) me M db dl du dq dw E ek eb el t1 t2 t3 t4 t5 t6)))] := hD
  exact wc_vret hx hb hr hlocks hP hS dX8_sets_14

set_option maxRecDepth 100000 in
set_option maxHeartbeats 1000000 in
theorem c_X8_ofDuck_db (l : Launch) (G : va_G) (cy : Nat → ClassId) (am aS aBf aAs aSv aPa aOu aTx aCo K OM LN PO CM : Nat) (iS th iw ea fa : Int32) (N : Nat) (v h pl me : Nat → Int32) (M : Nat) (db dl du dq dw : Nat → Int32) (E : Nat) (ek eb el : Nat → Int32) (t1 t2 t3 t4 t5 t6 : Int32) (b : Nat) (hb9 : b < 6) : RO l yX8_ofDuck wsX8_ofDuck { frames := 0, cells := 0, slots := 0, locals := 0 } (PB G cy [(am, .inr (12, [.ref aS, .ref aBf, .ref aAs, .ref aSv, .int iS, .ref aPa, .int (nI K), .int th, .ref aOu, .int (nI OM), .ref aTx, .int (nI LN), .int (nI PO), .int iw, .int ea, .int fa, .ref aCo, .int (nI CM)])), (aS, .inl (cy 2, 89, .inl (encT N v h pl me M db dl du dq dw E ek eb el t1 t2 t3 t4 t5 t6)))]) [.ref am, .int (nI b), .int 0] (some (.int (db b))) := by
  refine RO.ofW (cc := cX8_ofDuck) (maxL := 3) (ret := (some .int)) (by decide) rfl (Nat.le_of_ble_eq_true rfl) ?_
  intro p e s m below meth c S9 hr hlocks hPB ls hl
  obtain ⟨hx, hb, hml, hown, hts⟩ := id S9
  obtain ⟨hP, hK⟩ := hPB
  have hl : lv_has ls 3 [(0, .ref am), (1, .int (nI b)), (2, .int 0)] := hl
  have hi12 : ∀ w ∈ wsX80, w ∈ wsX8_ofDuck := by decide +kernel
  have hf9 := hts (.fieldLink RX8 9 "BathLeagueModel" "s" "[I") (by decide +kernel)
  refine lv_aload_n hx hb dX8_ofDuck_0 rfl (lv_at hl 0 rfl) ?_
  refine va_get (D := G) (ci := 12) (v := .ref aS) (C := RX8) (T := TX8) (N := 18) hx hb hts hi12 hown hK.1 hP 0 rfl rfl 0 (by decide) hf9 (fun _ h9 => h9) rfl dX8_ofDuck_1 ?_
  refine lv_bipush (v := 29) hx hb dX8_ofDuck_4 (by decide) ?_
  refine lv_iconst (v := 5) hx hb dX8_ofDuck_6 (by decide) ?_
  refine lv_iload_n hx hb dX8_ofDuck_7 rfl (lv_at hl 1 rfl) ?_
  refine lv_imul hx hb dX8_ofDuck_8 ?_
  refine lv_iadd hx hb dX8_ofDuck_9 ?_
  refine lv_iload_n hx hb dX8_ofDuck_10 rfl (lv_at hl 2 rfl) ?_
  refine lv_iadd hx hb dX8_ofDuck_11 ?_
  refine m_iald hx hb hK hP 1 (k := (29 + (5 * b)) + 0) rfl (m_add (m_add rfl (m_mul rfl rfl)) rfl) (by omega) (Nat.le_of_ble_eq_true rfl) dX8_ofDuck_12 ?_
  refine lv_t0 (encR_db (b := b) (by omega) (by omega)) ?_
  exact ro_iret hx hb hr hlocks rfl dX8_ofDuck_13

set_option maxRecDepth 100000 in
set_option maxHeartbeats 1000000 in
theorem c_X8_ofDuck_dl (l : Launch) (G : va_G) (cy : Nat → ClassId) (am aS aBf aAs aSv aPa aOu aTx aCo K OM LN PO CM : Nat) (iS th iw ea fa : Int32) (N : Nat) (v h pl me : Nat → Int32) (M : Nat) (db dl du dq dw : Nat → Int32) (E : Nat) (ek eb el : Nat → Int32) (t1 t2 t3 t4 t5 t6 : Int32) (b : Nat) (hb9 : b < 6) : RO l yX8_ofDuck wsX8_ofDuck { frames := 0, cells := 0, slots := 0, locals := 0 } (PB G cy [(am, .inr (12, [.ref aS, .ref aBf, .ref aAs, .ref aSv, .int iS, .ref aPa, .int (nI K), .int th, .ref aOu, .int (nI OM), .ref aTx, .int (nI LN), .int (nI PO), .int iw, .int ea, .int fa, .ref aCo, .int (nI CM)])), (aS, .inl (cy 2, 89, .inl (encT N v h pl me M db dl du dq dw E ek eb el t1 t2 t3 t4 t5 t6)))]) [.ref am, .int (nI b), .int 1] (some (.int (dl b))) := by
  refine RO.ofW (cc := cX8_ofDuck) (maxL := 3) (ret := (some .int)) (by decide) rfl (Nat.le_of_ble_eq_true rfl) ?_
  intro p e s m below meth c S9 hr hlocks hPB ls hl
  obtain ⟨hx, hb, hml, hown, hts⟩ := id S9
  obtain ⟨hP, hK⟩ := hPB
  have hl : lv_has ls 3 [(0, .ref am), (1, .int (nI b)), (2, .int 1)] := hl
  have hi12 : ∀ w ∈ wsX80, w ∈ wsX8_ofDuck := by decide +kernel
  have hf9 := hts (.fieldLink RX8 9 "BathLeagueModel" "s" "[I") (by decide +kernel)
  refine lv_aload_n hx hb dX8_ofDuck_0 rfl (lv_at hl 0 rfl) ?_
  refine va_get (D := G) (ci := 12) (v := .ref aS) (C := RX8) (T := TX8) (N := 18) hx hb hts hi12 hown hK.1 hP 0 rfl rfl 0 (by decide) hf9 (fun _ h9 => h9) rfl dX8_ofDuck_1 ?_
  refine lv_bipush (v := 29) hx hb dX8_ofDuck_4 (by decide) ?_
  refine lv_iconst (v := 5) hx hb dX8_ofDuck_6 (by decide) ?_
  refine lv_iload_n hx hb dX8_ofDuck_7 rfl (lv_at hl 1 rfl) ?_
  refine lv_imul hx hb dX8_ofDuck_8 ?_
  refine lv_iadd hx hb dX8_ofDuck_9 ?_
  refine lv_iload_n hx hb dX8_ofDuck_10 rfl (lv_at hl 2 rfl) ?_
  refine lv_iadd hx hb dX8_ofDuck_11 ?_
  refine m_iald hx hb hK hP 1 (k := (29 + (5 * b)) + 1) rfl (m_add (m_add rfl (m_mul rfl rfl)) rfl) (by omega) (Nat.le_of_ble_eq_true rfl) dX8_ofDuck_12 ?_
  refine lv_t0 (encR_dl (b := b) (by omega) (by omega)) ?_
  exact ro_iret hx hb hr hlocks rfl dX8_ofDuck_13

set_option maxRecDepth 100000 in
set_option maxHeartbeats 1000000 in
theorem c_X8_ofDuck_du (l : Launch) (G : va_G) (cy : Nat → ClassId) (am aS aBf aAs aSv aPa aOu aTx aCo K OM LN PO CM : Nat) (iS th iw ea fa : Int32) (N : Nat) (v h pl me : Nat → Int32) (M : Nat) (db dl du dq dw : Nat → Int32) (E : Nat) (ek eb el : Nat → Int32) (t1 t2 t3 t4 t5 t6 : Int32) (b : Nat) (hb9 : b < 6) : RO l yX8_ofDuck wsX8_ofDuck { frames := 0, cells := 0, slots := 0, locals := 0 } (PB G cy [(am, .inr (12, [.ref aS, .ref aBf, .ref aAs, .ref aSv, .int iS, .ref aPa, .int (nI K), .int th, .ref aOu, .int (nI OM), .ref aTx, .int (nI LN), .int (nI PO), .int iw, .int ea, .int fa, .ref aCo, .int (nI CM)])), (aS, .inl (cy 2, 89, .inl (encT N v h pl me M db dl du dq dw E ek eb el t1 t2 t3 t4 t5 t6)))]) [.ref am, .int (nI b), .int 2] (some (.int (du b))) := by
  refine RO.ofW (cc := cX8_ofDuck) (maxL := 3) (ret := (some .int)) (by decide) rfl (Nat.le_of_ble_eq_true rfl) ?_
  intro p e s m below meth c S9 hr hlocks hPB ls hl
  obtain ⟨hx, hb, hml, hown, hts⟩ := id S9
  obtain ⟨hP, hK⟩ := hPB
  have hl : lv_has ls 3 [(0, .ref am), (1, .int (nI b)), (2, .int 2)] := hl
  have hi12 : ∀ w ∈ wsX80, w ∈ wsX8_ofDuck := by decide +kernel
  have hf9 := hts (.fieldLink RX8 9 "BathLeagueModel" "s" "[I") (by decide +kernel)
  refine lv_aload_n hx hb dX8_ofDuck_0 rfl (lv_at hl 0 rfl) ?_
  refine va_get (D := G) (ci := 12) (v := .ref aS) (C := RX8) (T := TX8) (N := 18) hx hb hts hi12 hown hK.1 hP 0 rfl rfl 0 (by decide) hf9 (fun _ h9 => h9) rfl dX8_ofDuck_1 ?_
  refine lv_bipush (v := 29) hx hb dX8_ofDuck_4 (by decide) ?_
  refine lv_iconst (v := 5) hx hb dX8_ofDuck_6 (by decide) ?_
  refine lv_iload_n hx hb dX8_ofDuck_7 rfl (lv_at hl 1 rfl) ?_
  refine lv_imul hx hb dX8_ofDuck_8 ?_
  refine lv_iadd hx hb dX8_ofDuck_9 ?_
  refine lv_iload_n hx hb dX8_ofDuck_10 rfl (lv_at hl 2 rfl) ?_
  refine lv_iadd hx hb dX8_ofDuck_11 ?_
  refine m_iald hx hb hK hP 1 (k := (29 + (5 * b)) + 2) rfl (m_add (m_add rfl (m_mul rfl rfl)) rfl) (by omega) (Nat.le_of_ble_eq_true rfl) dX8_ofDuck_12 ?_
  refine lv_t0 (encR_du (b := b) (by omega) (by omega)) ?_
  exact ro_iret hx hb hr hlocks rfl dX8_ofDuck_13

set_option maxRecDepth 100000 in
set_option maxHeartbeats 1000000 in
theorem c_X8_ofDuck_dq (l : Launch) (G : va_G) (cy : Nat → ClassId) (am aS aBf aAs aSv aPa aOu aTx aCo K OM LN PO CM : Nat) (iS th iw ea fa : Int32) (N : Nat) (v h pl me : Nat → Int32) (M : Nat) (db dl du dq dw : Nat → Int32) (E : Nat) (ek eb el : Nat → Int32) (t1 t2 t3 t4 t5 t6 : Int32) (b : Nat) (hb9 : b < 6) : RO l yX8_ofDuck wsX8_ofDuck { frames := 0, cells := 0, slots := 0, locals := 0 } (PB G cy [(am, .inr (12, [.ref aS, .ref aBf, .ref aAs, .ref aSv, .int iS, .ref aPa, .int (nI K), .int th, .ref aOu, .int (nI OM), .ref aTx, .int (nI LN), .int (nI PO), .int iw, .int ea, .int fa, .ref aCo, .int (nI CM)])), (aS, .inl (cy 2, 89, .inl (encT N v h pl me M db dl du dq dw E ek eb el t1 t2 t3 t4 t5 t6)))]) [.ref am, .int (nI b), .int 3] (some (.int (dq b))) := by
  refine RO.ofW (cc := cX8_ofDuck) (maxL := 3) (ret := (some .int)) (by decide) rfl (Nat.le_of_ble_eq_true rfl) ?_
  intro p e s m below meth c S9 hr hlocks hPB ls hl
  obtain ⟨hx, hb, hml, hown, hts⟩ := id S9
  obtain ⟨hP, hK⟩ := hPB
  have hl : lv_has ls 3 [(0, .ref am), (1, .int (nI b)), (2, .int 3)] := hl
  have hi12 : ∀ w ∈ wsX80, w ∈ wsX8_ofDuck := by decide +kernel
  have hf9 := hts (.fieldLink RX8 9 "BathLeagueModel" "s" "[I") (by decide +kernel)
  refine lv_aload_n hx hb dX8_ofDuck_0 rfl (lv_at hl 0 rfl) ?_
  refine va_get (D := G) (ci := 12) (v := .ref aS) (C := RX8) (T := TX8) (N := 18) hx hb hts hi12 hown hK.1 hP 0 rfl rfl 0 (by decide) hf9 (fun _ h9 => h9) rfl dX8_ofDuck_1 ?_
  refine lv_bipush (v := 29) hx hb dX8_ofDuck_4 (by decide) ?_
  refine lv_iconst (v := 5) hx hb dX8_ofDuck_6 (by decide) ?_
  refine lv_iload_n hx hb dX8_ofDuck_7 rfl (lv_at hl 1 rfl) ?_
  refine lv_imul hx hb dX8_ofDuck_8 ?_
  refine lv_iadd hx hb dX8_ofDuck_9 ?_
  refine lv_iload_n hx hb dX8_ofDuck_10 rfl (lv_at hl 2 rfl) ?_
  refine lv_iadd hx hb dX8_ofDuck_11 ?_
  refine m_iald hx hb hK hP 1 (k := (29 + (5 * b)) + 3) rfl (m_add (m_add rfl (m_mul rfl rfl)) rfl) (by omega) (Nat.le_of_ble_eq_true rfl) dX8_ofDuck_12 ?_
  refine lv_t0 (encR_dq (b := b) (by omega) (by omega)) ?_
  exact ro_iret hx hb hr hlocks rfl dX8_ofDuck_13

set_option maxRecDepth 100000 in
set_option maxHeartbeats 1000000 in
theorem c_X8_ofDuck_dw (l : Launch) (G : va_G) (cy : Nat → ClassId) (am aS aBf aAs aSv aPa aOu aTx aCo K OM LN PO CM : Nat) (iS th iw ea fa : Int32) (N : Nat) (v h pl me : Nat → Int32) (M : Nat) (db dl du dq dw : Nat → Int32) (E : Nat) (ek eb el : Nat → Int32) (t1 t2 t3 t4 t5 t6 : Int32) (b : Nat) (hb9 : b < 6) : RO l yX8_ofDuck wsX8_ofDuck { frames := 0, cells := 0, slots := 0, locals := 0 } (PB G cy [(am, .inr (12, [.ref aS, .ref aBf, .ref aAs, .ref aSv, .int iS, .ref aPa, .int (nI K), .int th, .ref aOu, .int (nI OM), .ref aTx, .int (nI LN), .int (nI PO), .int iw, .int ea, .int fa, .ref aCo, .int (nI CM)])), (aS, .inl (cy 2, 89, .inl (encT N v h pl me M db dl du dq dw E ek eb el t1 t2 t3 t4 t5 t6)))]) [.ref am, .int (nI b), .int 4] (some (.int (dw b))) := by
  refine RO.ofW (cc := cX8_ofDuck) (maxL := 3) (ret := (some .int)) (by decide) rfl (Nat.le_of_ble_eq_true rfl) ?_
  intro p e s m below meth c S9 hr hlocks hPB ls hl
  obtain ⟨hx, hb, hml, hown, hts⟩ := id S9
  obtain ⟨hP, hK⟩ := hPB
  have hl : lv_has ls 3 [(0, .ref am), (1, .int (nI b)), (2, .int 4)] := hl
  have hi12 : ∀ w ∈ wsX80, w ∈ wsX8_ofDuck := by decide +kernel
  have hf9 := hts (.fieldLink RX8 9 "BathLeagueModel" "s" "[I") (by decide +kernel)
  refine lv_aload_n hx hb dX8_ofDuck_0 rfl (lv_at hl 0 rfl) ?_
  refine va_get (D := G) (ci := 12) (v := .ref aS) (C := RX8) (T := TX8) (N := 18) hx hb hts hi12 hown hK.1 hP 0 rfl rfl 0 (by decide) hf9 (fun _ h9 => h9) rfl dX8_ofDuck_1 ?_
  refine lv_bipush (v := 29) hx hb dX8_ofDuck_4 (by decide) ?_
  refine lv_iconst (v := 5) hx hb dX8_ofDuck_6 (by decide) ?_
  refine lv_iload_n hx hb dX8_ofDuck_7 rfl (lv_at hl 1 rfl) ?_
  refine lv_imul hx hb dX8_ofDuck_8 ?_
  refine lv_iadd hx hb dX8_ofDuck_9 ?_
  refine lv_iload_n hx hb dX8_ofDuck_10 rfl (lv_at hl 2 rfl) ?_
  refine lv_iadd hx hb dX8_ofDuck_11 ?_
  refine m_iald hx hb hK hP 1 (k := (29 + (5 * b)) + 4) rfl (m_add (m_add rfl (m_mul rfl rfl)) rfl) (by omega) (Nat.le_of_ble_eq_true rfl) dX8_ofDuck_12 ?_
  refine lv_t0 (encR_dw (b := b) (by omega) (by omega)) ?_
  exact ro_iret hx hb hr hlocks rfl dX8_ofDuck_13

set_option maxRecDepth 100000 in
set_option maxHeartbeats 1000000 in
theorem c_X8_isWet (l : Launch) (G : va_G) (cy : Nat → ClassId) (am aS aBf aAs aSv aPa aOu aTx aCo K OM LN PO CM : Nat) (iS th iw ea fa : Int32) (N : Nat) (v h pl me : Nat → Int32) (M : Nat) (db dl du dq dw : Nat → Int32) (E : Nat) (ek eb el : Nat → Int32) (t1 t2 t3 t4 t5 t6 : Int32) (b : Nat) (hb9 : b < 5) : RO l yX8_isWet wsX8_isWet { frames := 1, cells := 0, slots := 0, locals := 22 } (PB G cy [(am, .inr (12, [.ref aS, .ref aBf, .ref aAs, .ref aSv, .int iS, .ref aPa, .int (nI K), .int th, .ref aOu, .int (nI OM), .ref aTx, .int (nI LN), .int (nI PO), .int iw, .int ea, .int fa, .ref aCo, .int (nI CM)])), (aS, .inl (cy 2, 89, .inl (encT N v h pl me M db dl du dq dw E ek eb el t1 t2 t3 t4 t5 t6)))]) [.ref am, .int (nI b)] (some (.int (if wet v b = true then 1 else 0))) := by
  refine RO.ofW (cc := cX8_isWet) (maxL := 2) (ret := (some .boolean)) (by decide) rfl (Nat.le_of_ble_eq_true rfl) ?_
  intro p e s m below meth c S9 hr hlocks hPB ls hl
  obtain ⟨hx, hb, hml, hown, hts⟩ := id S9
  obtain ⟨hP, hK⟩ := hPB
  have hl : lv_has ls 2 [(0, .ref am), (1, .int (nI b))] := hl
  refine lv_aload_n hx hb dX8_isWet_0 rfl (lv_at hl 0 rfl) ?_
  refine lv_iload_n hx hb dX8_isWet_1 rfl (lv_at hl 1 rfl) ?_
  refine lv_iconst (v := 0) hx hb dX8_isWet_2 (by decide) ?_
  refine c_roVi S9 (c_X8_of_v l G cy am aS aBf aAs aSv aPa aOu aTx aCo K OM LN PO CM iS th iw ea fa N v h pl me M db dl du dq dw E ek eb el t1 t2 t3 t4 t5 t6 b (by omega)) (cwV 2 hts gX8_isWet_X8_of rfl rfl rfl (by decide +kernel) ⟨Nat.le_of_ble_eq_true rfl, Nat.le_of_ble_eq_true rfl⟩) PB.blind (va_recv hK.1 hP (ci := 12) (q0 := 0) rfl rfl) (PB.at hK (m_Ppart hP [0, 1] rfl)) rfl hl.1 rfl (Nat.le_of_ble_eq_true rfl) ⟨Nat.zero_le _, Nat.zero_le _⟩ dX8_isWet_3 ?_
  refine lv_if_le (tgt := 13) hx hb dX8_isWet_6 (by decide) (fun c_1 => ?_) (fun c_1 => ?_)
  · have c_1' : ¬ 0 < (v b) := Int32.not_lt.mpr c_1
    refine lv_iconst (v := 0) hx hb dX8_isWet_13 (by decide) ?_
    exact ro_zret hx hb hr hlocks (by first | rfl | (split <;> rfl)) (by simp [wet, c_1', c_1]) dX8_isWet_14
  · have c_1' : 0 < (v b) := Int32.not_le.mp c_1
    refine lv_iconst (v := 1) hx hb dX8_isWet_9 (by decide) ?_
    refine lv_goto (tgt := 14) hx hb dX8_isWet_10 (by decide) ?_
    exact ro_zret hx hb hr hlocks (by first | rfl | (split <;> rfl)) (by simp [wet, c_1', c_1]) dX8_isWet_14

set_option maxRecDepth 100000 in
set_option maxHeartbeats 1000000 in
theorem c_X8_degrees (l : Launch) (G : va_G) (cy : Nat → ClassId) (am aS aBf aAs aSv aPa aOu aTx aCo K OM LN PO CM : Nat) (iS th iw ea fa : Int32) (N : Nat) (v h pl me : Nat → Int32) (M : Nat) (db dl du dq dw : Nat → Int32) (E : Nat) (ek eb el : Nat → Int32) (t1 t2 t3 t4 t5 t6 : Int32) (b : Nat) (hb9 : b < 5) (hw9 : wet v b = true) : RO l yX8_degrees wsX8_degrees { frames := 1, cells := 0, slots := 0, locals := 22 } (PB G cy [(am, .inr (12, [.ref aS, .ref aBf, .ref aAs, .ref aSv, .int iS, .ref aPa, .int (nI K), .int th, .ref aOu, .int (nI OM), .ref aTx, .int (nI LN), .int (nI PO), .int iw, .int ea, .int fa, .ref aCo, .int (nI CM)])), (aS, .inl (cy 2, 89, .inl (encT N v h pl me M db dl du dq dw E ek eb el t1 t2 t3 t4 t5 t6)))]) [.ref am, .int (nI b)] (some (.int (rdeg (h b) (v b)))) := by
  refine RO.ofW (cc := cX8_degrees) (maxL := 2) (ret := (some .int)) (by decide) rfl (Nat.le_of_ble_eq_true rfl) ?_
  intro p e s m below meth c S9 hr hlocks hPB ls hl
  obtain ⟨hx, hb, hml, hown, hts⟩ := id S9
  obtain ⟨hP, hK⟩ := hPB
  have hl : lv_has ls 2 [(0, .ref am), (1, .int (nI b))] := hl
  refine lv_aload_n hx hb dX8_degrees_0 rfl (lv_at hl 0 rfl) ?_
  refine lv_iload_n hx hb dX8_degrees_1 rfl (lv_at hl 1 rfl) ?_
  refine lv_iconst (v := 1) hx hb dX8_degrees_2 (by decide) ?_
  refine c_roVi S9 (c_X8_of_h l G cy am aS aBf aAs aSv aPa aOu aTx aCo K OM LN PO CM iS th iw ea fa N v h pl me M db dl du dq dw E ek eb el t1 t2 t3 t4 t5 t6 b (by omega)) (cwV 2 hts gX8_degrees_X8_of rfl rfl rfl (by decide +kernel) ⟨Nat.le_of_ble_eq_true rfl, Nat.le_of_ble_eq_true rfl⟩) PB.blind (va_recv hK.1 hP (ci := 12) (q0 := 0) rfl rfl) (PB.at hK (m_Ppart hP [0, 1] rfl)) rfl hl.1 rfl (Nat.le_of_ble_eq_true rfl) ⟨Nat.zero_le _, Nat.zero_le _⟩ dX8_degrees_3 ?_
  refine lv_aload_n hx hb dX8_degrees_6 rfl (lv_at hl 0 rfl) ?_
  refine lv_iload_n hx hb dX8_degrees_7 rfl (lv_at hl 1 rfl) ?_
  refine lv_iconst (v := 0) hx hb dX8_degrees_8 (by decide) ?_
  refine c_roVi S9 (c_X8_of_v l G cy am aS aBf aAs aSv aPa aOu aTx aCo K OM LN PO CM iS th iw ea fa N v h pl me M db dl du dq dw E ek eb el t1 t2 t3 t4 t5 t6 b (by omega)) (cwV 2 hts gX8_degrees_X8_of rfl rfl rfl (by decide +kernel) ⟨Nat.le_of_ble_eq_true rfl, Nat.le_of_ble_eq_true rfl⟩) PB.blind (va_recv hK.1 hP (ci := 12) (q0 := 0) rfl rfl) (PB.at hK (m_Ppart hP [0, 1] rfl)) rfl hl.1 rfl (Nat.le_of_ble_eq_true rfl) ⟨Nat.zero_le _, Nat.zero_le _⟩ dX8_degrees_9 ?_
  refine lv_idiv hx hb dX8_degrees_12 (m_nz (m_wet hw9)) ?_
  exact ro_iret hx hb hr hlocks (if_neg (m_wet hw9)).symm dX8_degrees_13

set_option maxRecDepth 100000 in
set_option maxHeartbeats 1000000 in
theorem c_X8_warmer (l : Launch) (G : va_G) (cy : Nat → ClassId) (am aS aBf aAs aSv aPa aOu aTx aCo K OM LN PO CM : Nat) (iS th iw ea fa : Int32) (N : Nat) (v h pl me : Nat → Int32) (M : Nat) (db dl du dq dw : Nat → Int32) (E : Nat) (ek eb el : Nat → Int32) (t1 t2 t3 t4 t5 t6 : Int32) (a b : Nat) (ha9 : a < 5) (hb9 : b < 5) : RO l yX8_warmer wsX8_warmer { frames := 1, cells := 0, slots := 0, locals := 22 } (PB G cy [(am, .inr (12, [.ref aS, .ref aBf, .ref aAs, .ref aSv, .int iS, .ref aPa, .int (nI K), .int th, .ref aOu, .int (nI OM), .ref aTx, .int (nI LN), .int (nI PO), .int iw, .int ea, .int fa, .ref aCo, .int (nI CM)])), (aS, .inl (cy 2, 89, .inl (encT N v h pl me M db dl du dq dw E ek eb el t1 t2 t3 t4 t5 t6)))]) [.ref am, .int (nI a), .int (nI b)] (some (.int (h a * v b - h b * v a))) := by
  refine RO.ofW (cc := cX8_warmer) (maxL := 3) (ret := (some .int)) (by decide) rfl (Nat.le_of_ble_eq_true rfl) ?_
  intro p e s m below meth c S9 hr hlocks hPB ls hl
  obtain ⟨hx, hb, hml, hown, hts⟩ := id S9
  obtain ⟨hP, hK⟩ := hPB
  have hl : lv_has ls 3 [(0, .ref am), (1, .int (nI a)), (2, .int (nI b))] := hl
  refine lv_aload_n hx hb dX8_warmer_0 rfl (lv_at hl 0 rfl) ?_
  refine lv_iload_n hx hb dX8_warmer_1 rfl (lv_at hl 1 rfl) ?_
  refine lv_iconst (v := 1) hx hb dX8_warmer_2 (by decide) ?_
  refine c_roVi S9 (c_X8_of_h l G cy am aS aBf aAs aSv aPa aOu aTx aCo K OM LN PO CM iS th iw ea fa N v h pl me M db dl du dq dw E ek eb el t1 t2 t3 t4 t5 t6 a (by omega)) (cwV 2 hts gX8_warmer_X8_of rfl rfl rfl (by decide +kernel) ⟨Nat.le_of_ble_eq_true rfl, Nat.le_of_ble_eq_true rfl⟩) PB.blind (va_recv hK.1 hP (ci := 12) (q0 := 0) rfl rfl) (PB.at hK (m_Ppart hP [0, 1] rfl)) rfl hl.1 rfl (Nat.le_of_ble_eq_true rfl) ⟨Nat.zero_le _, Nat.zero_le _⟩ dX8_warmer_3 ?_
  refine lv_aload_n hx hb dX8_warmer_6 rfl (lv_at hl 0 rfl) ?_
  refine lv_iload_n hx hb dX8_warmer_7 rfl (lv_at hl 2 rfl) ?_
  refine lv_iconst (v := 0) hx hb dX8_warmer_8 (by decide) ?_
  refine c_roVi S9 (c_X8_of_v l G cy am aS aBf aAs aSv aPa aOu aTx aCo K OM LN PO CM iS th iw ea fa N v h pl me M db dl du dq dw E ek eb el t1 t2 t3 t4 t5 t6 b (by omega)) (cwV 2 hts gX8_warmer_X8_of rfl rfl rfl (by decide +kernel) ⟨Nat.le_of_ble_eq_true rfl, Nat.le_of_ble_eq_true rfl⟩) PB.blind (va_recv hK.1 hP (ci := 12) (q0 := 0) rfl rfl) (PB.at hK (m_Ppart hP [0, 1] rfl)) rfl hl.1 rfl (Nat.le_of_ble_eq_true rfl) ⟨Nat.zero_le _, Nat.zero_le _⟩ dX8_warmer_9 ?_
  refine lv_imul hx hb dX8_warmer_12 ?_
  refine lv_aload_n hx hb dX8_warmer_13 rfl (lv_at hl 0 rfl) ?_
  refine lv_iload_n hx hb dX8_warmer_14 rfl (lv_at hl 2 rfl) ?_
  refine lv_iconst (v := 1) hx hb dX8_warmer_15 (by decide) ?_
  refine c_roVi S9 (c_X8_of_h l G cy am aS aBf aAs aSv aPa aOu aTx aCo K OM LN PO CM iS th iw ea fa N v h pl me M db dl du dq dw E ek eb el t1 t2 t3 t4 t5 t6 b (by omega)) (cwV 2 hts gX8_warmer_X8_of rfl rfl rfl (by decide +kernel) ⟨Nat.le_of_ble_eq_true rfl, Nat.le_of_ble_eq_true rfl⟩) PB.blind (va_recv hK.1 hP (ci := 12) (q0 := 0) rfl rfl) (PB.at hK (m_Ppart hP [0, 1] rfl)) rfl hl.1 rfl (Nat.le_of_ble_eq_true rfl) ⟨Nat.zero_le _, Nat.zero_le _⟩ dX8_warmer_16 ?_
  refine lv_aload_n hx hb dX8_warmer_19 rfl (lv_at hl 0 rfl) ?_
  refine lv_iload_n hx hb dX8_warmer_20 rfl (lv_at hl 1 rfl) ?_
  refine lv_iconst (v := 0) hx hb dX8_warmer_21 (by decide) ?_
  refine c_roVi S9 (c_X8_of_v l G cy am aS aBf aAs aSv aPa aOu aTx aCo K OM LN PO CM iS th iw ea fa N v h pl me M db dl du dq dw E ek eb el t1 t2 t3 t4 t5 t6 a (by omega)) (cwV 2 hts gX8_warmer_X8_of rfl rfl rfl (by decide +kernel) ⟨Nat.le_of_ble_eq_true rfl, Nat.le_of_ble_eq_true rfl⟩) PB.blind (va_recv hK.1 hP (ci := 12) (q0 := 0) rfl rfl) (PB.at hK (m_Ppart hP [0, 1] rfl)) rfl hl.1 rfl (Nat.le_of_ble_eq_true rfl) ⟨Nat.zero_le _, Nat.zero_le _⟩ dX8_warmer_22 ?_
  refine lv_imul hx hb dX8_warmer_25 ?_
  refine lv_isub hx hb dX8_warmer_26 ?_
  exact ro_iret hx hb hr hlocks rfl dX8_warmer_27

set_option maxRecDepth 100000 in
set_option maxHeartbeats 1000000 in
theorem c_X8_isPleased (l : Launch) (G : va_G) (cy : Nat → ClassId) (am aS aBf aAs aSv aPa aOu aTx aCo K OM LN PO CM : Nat) (iS th iw ea fa : Int32) (N : Nat) (v h pl me : Nat → Int32) (M : Nat) (db dl du dq dw : Nat → Int32) (E : Nat) (ek eb el : Nat → Int32) (t1 t2 t3 t4 t5 t6 : Int32) (d : Nat) (hd9 : d < 6) (hd : dOK (db d)) : RO l yX8_isPleased wsX8_isPleased { frames := 2, cells := 0, slots := 0, locals := 43 } (PB G cy [(am, .inr (12, [.ref aS, .ref aBf, .ref aAs, .ref aSv, .int iS, .ref aPa, .int (nI K), .int th, .ref aOu, .int (nI OM), .ref aTx, .int (nI LN), .int (nI PO), .int iw, .int ea, .int fa, .ref aCo, .int (nI CM)])), (aS, .inl (cy 2, 89, .inl (encT N v h pl me M db dl du dq dw E ek eb el t1 t2 t3 t4 t5 t6)))]) [.ref am, .int (nI d)] (some (.int (if plz v h db dl du d = true then 1 else 0))) := by
  refine RO.ofW (cc := cX8_isPleased) (maxL := 3) (ret := (some .boolean)) (by decide) rfl (Nat.le_of_ble_eq_true rfl) ?_
  intro p e s m below meth c S9 hr hlocks hPB ls hl
  obtain ⟨hx, hb, hml, hown, hts⟩ := id S9
  obtain ⟨hP, hK⟩ := hPB
  have hl : lv_has ls 3 [(0, .ref am), (1, .int (nI d))] := hl
  have hd2 := hd.2
  refine lv_aload_n hx hb dX8_isPleased_0 rfl (lv_at hl 0 rfl) ?_
  refine lv_iload_n hx hb dX8_isPleased_1 rfl (lv_at hl 1 rfl) ?_
  refine lv_iconst (v := 0) hx hb dX8_isPleased_2 (by decide) ?_
  refine c_roVi S9 (c_X8_ofDuck_db l G cy am aS aBf aAs aSv aPa aOu aTx aCo K OM LN PO CM iS th iw ea fa N v h pl me M db dl du dq dw E ek eb el t1 t2 t3 t4 t5 t6 d (by omega)) (cwV 2 hts gX8_isPleased_X8_ofDuck rfl rfl rfl (by decide +kernel) ⟨Nat.le_of_ble_eq_true rfl, Nat.le_of_ble_eq_true rfl⟩) PB.blind (va_recv hK.1 hP (ci := 12) (q0 := 0) rfl rfl) (PB.at hK (m_Ppart hP [0, 1] rfl)) rfl hl.1 rfl (Nat.le_of_ble_eq_true rfl) ⟨Nat.zero_le _, Nat.zero_le _⟩ dX8_isPleased_3 ?_
  refine lv_istore_n (lv' := [(2, .int (db d)), (0, .ref am), (1, .int (nI d))]) hx hb dX8_isPleased_6 rfl hl (by decide) rfl (fun ls hl => ?_)
  refine lv_aload_n hx hb dX8_isPleased_7 rfl (lv_at hl 1 rfl) ?_
  refine lv_iload_n hx hb dX8_isPleased_8 rfl (lv_at hl 0 rfl) ?_
  refine lv_t0 (show db d = nI (bx (db d)) from hd.1) ?_
  refine c_roVi S9 (c_X8_isWet l G cy am aS aBf aAs aSv aPa aOu aTx aCo K OM LN PO CM iS th iw ea fa N v h pl me M db dl du dq dw E ek eb el t1 t2 t3 t4 t5 t6 (bx (db d)) (by omega)) (cwV 1 hts gX8_isPleased_X8_isWet rfl rfl rfl (by decide +kernel) ⟨Nat.le_of_ble_eq_true rfl, Nat.le_of_ble_eq_true rfl⟩) PB.blind (va_recv hK.1 hP (ci := 12) (q0 := 0) rfl rfl) (PB.at hK (m_Ppart hP [0, 1] rfl)) rfl hl.1 rfl (Nat.le_of_ble_eq_true rfl) ⟨Nat.zero_le _, Nat.zero_le _⟩ dX8_isPleased_9 ?_
  refine lv_if_eq (tgt := 42) hx hb dX8_isPleased_12 (by decide) (fun c_1 => ?_) (fun c_1 => ?_)
  · have b_2 : ¬ (wet v (bx (db d)) = true) := m_ite0.mp c_1
    refine lv_iconst (v := 0) hx hb dX8_isPleased_42 (by decide) ?_
    exact ro_zret hx hb hr hlocks (by first | rfl | (split <;> rfl)) (by rw [plz_eq]; simp [b_2]) dX8_isPleased_43
  · have b_3 : wet v (bx (db d)) = true := m_ite1.mp c_1
    refine lv_aload_n hx hb dX8_isPleased_15 rfl (lv_at hl 1 rfl) ?_
    refine lv_iload_n hx hb dX8_isPleased_16 rfl (lv_at hl 0 rfl) ?_
    refine lv_t0 (show db d = nI (bx (db d)) from hd.1) ?_
    refine c_roVi S9 (c_X8_degrees l G cy am aS aBf aAs aSv aPa aOu aTx aCo K OM LN PO CM iS th iw ea fa N v h pl me M db dl du dq dw E ek eb el t1 t2 t3 t4 t5 t6 (bx (db d)) (by omega) b_3) (cwV 1 hts gX8_isPleased_X8_degrees rfl rfl rfl (by decide +kernel) ⟨Nat.le_of_ble_eq_true rfl, Nat.le_of_ble_eq_true rfl⟩) PB.blind (va_recv hK.1 hP (ci := 12) (q0 := 0) rfl rfl) (PB.at hK (m_Ppart hP [0, 1] rfl)) rfl hl.1 rfl (Nat.le_of_ble_eq_true rfl) ⟨Nat.zero_le _, Nat.zero_le _⟩ dX8_isPleased_17 ?_
    refine lv_aload_n hx hb dX8_isPleased_20 rfl (lv_at hl 1 rfl) ?_
    refine lv_iload_n hx hb dX8_isPleased_21 rfl (lv_at hl 2 rfl) ?_
    refine lv_iconst (v := 1) hx hb dX8_isPleased_22 (by decide) ?_
    refine c_roVi S9 (c_X8_ofDuck_dl l G cy am aS aBf aAs aSv aPa aOu aTx aCo K OM LN PO CM iS th iw ea fa N v h pl me M db dl du dq dw E ek eb el t1 t2 t3 t4 t5 t6 d (by omega)) (cwV 2 hts gX8_isPleased_X8_ofDuck rfl rfl rfl (by decide +kernel) ⟨Nat.le_of_ble_eq_true rfl, Nat.le_of_ble_eq_true rfl⟩) PB.blind (va_recv hK.1 hP (ci := 12) (q0 := 0) rfl rfl) (PB.at hK (m_Ppart hP [0, 1] rfl)) rfl hl.1 rfl (Nat.le_of_ble_eq_true rfl) ⟨Nat.zero_le _, Nat.zero_le _⟩ dX8_isPleased_23 ?_
    refine lv_aload_n hx hb dX8_isPleased_26 rfl (lv_at hl 1 rfl) ?_
    refine lv_iload_n hx hb dX8_isPleased_27 rfl (lv_at hl 2 rfl) ?_
    refine lv_iconst (v := 2) hx hb dX8_isPleased_28 (by decide) ?_
    refine c_roVi S9 (c_X8_ofDuck_du l G cy am aS aBf aAs aSv aPa aOu aTx aCo K OM LN PO CM iS th iw ea fa N v h pl me M db dl du dq dw E ek eb el t1 t2 t3 t4 t5 t6 d (by omega)) (cwV 2 hts gX8_isPleased_X8_ofDuck rfl rfl rfl (by decide +kernel) ⟨Nat.le_of_ble_eq_true rfl, Nat.le_of_ble_eq_true rfl⟩) PB.blind (va_recv hK.1 hP (ci := 12) (q0 := 0) rfl rfl) (PB.at hK (m_Ppart hP [0, 1] rfl)) rfl hl.1 rfl (Nat.le_of_ble_eq_true rfl) ⟨Nat.zero_le _, Nat.zero_le _⟩ dX8_isPleased_29 ?_
    refine c_roSi S9 (c_X8_in l G cy (rdeg (h (bx (db d))) (v (bx (db d)))) (dl d) (du d)) (va_cwS 3 hts gX8_isPleased_X8_in rfl rfl rfl (by decide +kernel) ⟨Nat.le_of_ble_eq_true rfl, Nat.le_of_ble_eq_true rfl⟩) PB.blind (PB.at hK (m_Ppart hP [] rfl)) rfl hl.1 rfl (Nat.le_of_ble_eq_true rfl) ⟨Nat.zero_le _, Nat.zero_le _⟩ dX8_isPleased_32 ?_
    refine lv_if_eq (tgt := 42) hx hb dX8_isPleased_35 (by decide) (fun c_4 => ?_) (fun c_4 => ?_)
    · have b_5 : ¬ (inR (rdeg (h (bx (db d))) (v (bx (db d)))) (dl d) (du d) = true) := m_ite0.mp c_4
      refine lv_iconst (v := 0) hx hb dX8_isPleased_42 (by decide) ?_
      exact ro_zret hx hb hr hlocks (by first | rfl | (split <;> rfl)) (by rw [plz_eq]; simp [b_3, b_5]) dX8_isPleased_43
    · have b_6 : inR (rdeg (h (bx (db d))) (v (bx (db d)))) (dl d) (du d) = true := m_ite1.mp c_4
      refine lv_iconst (v := 1) hx hb dX8_isPleased_38 (by decide) ?_
      refine lv_goto (tgt := 43) hx hb dX8_isPleased_39 (by decide) ?_
      exact ro_zret hx hb hr hlocks (by first | rfl | (split <;> rfl)) (by rw [plz_eq]; simp [b_3, b_6]) dX8_isPleased_43

set_option maxRecDepth 100000 in
set_option maxHeartbeats 1000000 in
theorem c_X8_looks (l : Launch) (G : va_G) (cy : Nat → ClassId) (am aS aBf aAs aSv aPa aOu aTx aCo K OM LN PO CM : Nat) (iS th iw ea fa : Int32) (N : Nat) (v h pl me : Nat → Int32) (M : Nat) (db dl du dq dw : Nat → Int32) (E : Nat) (ek eb el : Nat → Int32) (t1 t2 t3 t4 t5 t6 : Int32) (hM : M ≤ 6) (hdd : ∀ j, j < M → dOK (db j)) (hw : ∀ j, j < 6 → dw j = 0 ∨ dw j = 1) : WC l yX8_looks wsX8_looks { frames := 3, cells := 0, slots := 0, locals := 65 } G (PB G cy [(am, .inr (12, [.ref aS, .ref aBf, .ref aAs, .ref aSv, .int iS, .ref aPa, .int (nI K), .int th, .ref aOu, .int (nI OM), .ref aTx, .int (nI LN), .int (nI PO), .int iw, .int ea, .int fa, .ref aCo, .int (nI CM)])), (aS, .inl (cy 2, 89, .inl (encT N v h pl me M db dl du dq dw E ek eb el t1 t2 t3 t4 t5 t6)))]) [.ref am] [(am, .inr (12, [.ref aS, .ref aBf, .ref aAs, .ref aSv, .int iS, .ref aPa, .int (nI K), .int th, .ref aOu, .int (nI OM), .ref aTx, .int (nI LN), .int (nI PO), .int iw, .int ea, .int fa, .ref aCo, .int (nI CM)])), (aS, .inl (cy 2, 89, .inl (encT N v h pl me M db dl du dq dw E ek eb el t1 t2 t3 t4 t5 t6)))] [(am, .inr (12, [.ref aS, .ref aBf, .ref aAs, .ref aSv, .int iS, .ref aPa, .int (nI K), .int th, .ref aOu, .int (nI OM), .ref aTx, .int (nI LN), .int (nI PO), .int iw, .int ea, .int fa, .ref aCo, .int (nI CM)])), (aS, .inl (cy 2, 89, .inl (encT N v h pl me M db dl du (obsQ (plz v h db dl du) dq dw M) (obsW (plz v h db dl du) dw M) E ek eb el t1 t2 t3 t4 t5 t6)))] (none) := by
  refine WC.ofW (cc := cX8_looks) (maxL := 4) (ret := none) (by decide) rfl (Nat.le_of_ble_eq_true rfl) ?_
  intro p e s m below meth c S9 hr hlocks hPB hD hS ls hl
  obtain ⟨hx, hb, hml, hown, hts⟩ := id S9
  obtain ⟨hP, hK⟩ := hPB
  have hl : lv_has ls 4 [(0, .ref am)] := hl
  have hi12 : ∀ w ∈ wsX80, w ∈ wsX8_looks := by decide +kernel
  have hf9 := hts (.fieldLink RX8 9 "BathLeagueModel" "s" "[I") (by decide +kernel)
  refine lv_iconst (v := 0) hx hb dX8_looks_0 (by decide) ?_
  refine lv_istore_n (lv' := [(1, .int 0), (0, .ref am)]) hx hb dX8_looks_1 rfl hl (by decide) rfl (fun ls hl => ?_)
  have L_1 : ∀ (d k : Nat), k + d = M → ∀ (H : Heap) (locs : List Loc), va_P G vwCl [(am, .inr (12, [.ref aS, .ref aBf, .ref aAs, .ref aSv, .int iS, .ref aPa, .int (nI K), .int th, .ref aOu, .int (nI OM), .ref aTx, .int (nI LN), .int (nI PO), .int iw, .int ea, .int fa, .ref aCo, .int (nI CM)])), (aS, .inl (cy 2, 89, .inl (encT N v h pl me M db dl du (obsQ (plz v h db dl du) dq dw k) (obsW (plz v h db dl du) dw k) E ek eb el t1 t2 t3 t4 t5 t6)))] H → va_D (wA [(am, .inr (12, [.ref aS, .ref aBf, .ref aAs, .ref aSv, .int iS, .ref aPa, .int (nI K), .int th, .ref aOu, .int (nI OM), .ref aTx, .int (nI LN), .int (nI PO), .int iw, .int ea, .int fa, .ref aCo, .int (nI CM)])), (aS, .inl (cy 2, 89, .inl (encT N v h pl me M db dl du dq dw E ek eb el t1 t2 t3 t4 t5 t6)))]) [(am, .inr (12, [.ref aS, .ref aBf, .ref aAs, .ref aSv, .int iS, .ref aPa, .int (nI K), .int th, .ref aOu, .int (nI OM), .ref aTx, .int (nI LN), .int (nI PO), .int iw, .int ea, .int fa, .ref aCo, .int (nI CM)])), (aS, .inl (cy 2, 89, .inl (encT N v h pl me M db dl du (obsQ (plz v h db dl du) dq dw k) (obsW (plz v h db dl du) dw k) E ek eb el t1 t2 t3 t4 t5 t6)))] → va_S (wA [(am, .inr (12, [.ref aS, .ref aBf, .ref aAs, .ref aSv, .int iS, .ref aPa, .int (nI K), .int th, .ref aOu, .int (nI OM), .ref aTx, .int (nI LN), .int (nI PO), .int iw, .int ea, .int fa, .ref aCo, .int (nI CM)])), (aS, .inl (cy 2, 89, .inl (encT N v h pl me M db dl du dq dw E ek eb el t1 t2 t3 t4 t5 t6)))]) s.heap H locs → ∀ ls : Array Slot, lv_has ls 4 [(0, .ref am), (1, .int (nI k))] → W p l e ({ frames := 3, cells := 0, slots := 0, locals := 65 } : Room) s m ([.ref am] : List Value).toArray below meth c H locs 0 0 (wcZ below ([.ref am] : List Value).toArray s G [(am, .inr (12, [.ref aS, .ref aBf, .ref aAs, .ref aSv, .int iS, .ref aPa, .int (nI K), .int th, .ref aOu, .int (nI OM), .ref aTx, .int (nI LN), .int (nI PO), .int iw, .int ea, .int fa, .ref aCo, .int (nI CM)])), (aS, .inl (cy 2, 89, .inl (encT N v h pl me M db dl du dq dw E ek eb el t1 t2 t3 t4 t5 t6)))] [(am, .inr (12, [.ref aS, .ref aBf, .ref aAs, .ref aSv, .int iS, .ref aPa, .int (nI K), .int th, .ref aOu, .int (nI OM), .ref aTx, .int (nI LN), .int (nI PO), .int iw, .int ea, .int fa, .ref aCo, .int (nI CM)])), (aS, .inl (cy 2, 89, .inl (encT N v h pl me M db dl du (obsQ (plz v h db dl du) dq dw M) (obsW (plz v h db dl du) dw M) E ek eb el t1 t2 t3 t4 t5 t6)))] (none)) (F0 m 2 ls []) := by
    intro d
    induction d with
    | zero =>
      intro k hkk H locs hP hD hS ls hl
      refine lv_iload_n hx hb dX8_looks_2 rfl (lv_at hl 1 rfl) ?_
      refine lv_aload_n hx hb dX8_looks_3 rfl (lv_at hl 0 rfl) ?_
      refine va_get (D := G) (ci := 12) (v := .ref aS) (C := RX8) (T := TX8) (N := 18) hx hb hts hi12 hown hK.1 hP 0 rfl rfl 0 (by decide) hf9 (fun _ h9 => h9) rfl dX8_looks_4 ?_
      refine lv_iconst (v := 1) hx hb dX8_looks_7 (by decide) ?_
      refine m_iald hx hb hK hP 1 (k := 1) rfl rfl (by omega) (Nat.le_of_ble_eq_true rfl) dX8_looks_8 ?_
      refine lv_t0 (encR_1 rfl) ?_
      refine lv_icmp_ge (tgt := 80) hx hb dX8_looks_9 (by decide) (fun c_2 => ?_) (fun c_2 => ?_)
      · have k_3 : M ≤ k := (m_leN (a := M) (b := k) rfl rfl (by omega) (by omega)).mp c_2
        have k_3' : ¬ (k < M) := by omega
        have e_4 : encT N v h pl me M db dl du (obsQ (plz v h db dl du) dq dw M) (obsW (plz v h db dl du) dw M) E ek eb el t1 t2 t3 t4 t5 t6 = encT N v h pl me M db dl du (obsQ (plz v h db dl du) dq dw k) (obsW (plz v h db dl du) dw k) E ek eb el t1 t2 t3 t4 t5 t6 := (by rw [show M = k by omega])
        exact wc_vret hx hb hr hlocks (by rw [e_4]; exact hP) hS dX8_looks_80
      · have k_5 : ¬ (M ≤ k) := fun z => c_2 ((m_leN (a := M) (b := k) rfl rfl (by omega) (by omega)).mpr z)
        have k_5' : k < M := by omega
        exfalso; omega
    | succ d ih =>
      intro k hkk H locs hP hD hS ls hl
      refine lv_iload_n hx hb dX8_looks_2 rfl (lv_at hl 1 rfl) ?_
      refine lv_aload_n hx hb dX8_looks_3 rfl (lv_at hl 0 rfl) ?_
      refine va_get (D := G) (ci := 12) (v := .ref aS) (C := RX8) (T := TX8) (N := 18) hx hb hts hi12 hown hK.1 hP 0 rfl rfl 0 (by decide) hf9 (fun _ h9 => h9) rfl dX8_looks_4 ?_
      refine lv_iconst (v := 1) hx hb dX8_looks_7 (by decide) ?_
      refine m_iald hx hb hK hP 1 (k := 1) rfl rfl (by omega) (Nat.le_of_ble_eq_true rfl) dX8_looks_8 ?_
      refine lv_t0 (encR_1 rfl) ?_
      refine lv_icmp_ge (tgt := 80) hx hb dX8_looks_9 (by decide) (fun c_6 => ?_) (fun c_6 => ?_)
      · have k_7 : M ≤ k := (m_leN (a := M) (b := k) rfl rfl (by omega) (by omega)).mp c_6
        have k_7' : ¬ (k < M) := by omega
        exfalso; omega
      · have k_8 : ¬ (M ≤ k) := fun z => c_6 ((m_leN (a := M) (b := k) rfl rfl (by omega) (by omega)).mpr z)
        have k_8' : k < M := by omega
        refine lv_bipush (v := 29) hx hb dX8_looks_12 (by decide) ?_
        refine lv_iconst (v := 5) hx hb dX8_looks_14 (by decide) ?_
        refine lv_iload_n hx hb dX8_looks_15 rfl (lv_at hl 1 rfl) ?_
        refine lv_imul hx hb dX8_looks_16 ?_
        refine lv_iadd hx hb dX8_looks_17 ?_
        refine lv_istore_n (lv' := [(2, .int (29 + (5 * (nI k)))), (0, .ref am), (1, .int (nI k))]) hx hb dX8_looks_18 rfl hl (by decide) rfl (fun ls hl => ?_)
        refine lv_aload_n hx hb dX8_looks_19 rfl (lv_at hl 1 rfl) ?_
        refine lv_iload_n hx hb dX8_looks_20 rfl (lv_at hl 2 rfl) ?_
        refine c_roVi S9 (c_X8_isPleased l G cy am aS aBf aAs aSv aPa aOu aTx aCo K OM LN PO CM iS th iw ea fa N v h pl me M db dl du (obsQ (plz v h db dl du) dq dw k) (obsW (plz v h db dl du) dw k) E ek eb el t1 t2 t3 t4 t5 t6 k (by omega) (hdd k (by omega))) (cwV 1 hts gX8_looks_X8_isPleased rfl rfl rfl (by decide +kernel) ⟨Nat.le_of_ble_eq_true rfl, Nat.le_of_ble_eq_true rfl⟩) PB.blind (va_recv hK.1 hP (ci := 12) (q0 := 0) rfl rfl) (PB.at hK (m_Ppart hP [0, 1] rfl)) rfl hl.1 rfl (Nat.le_of_ble_eq_true rfl) ⟨Nat.zero_le _, Nat.zero_le _⟩ dX8_looks_21 ?_
        by_cases b_9 : plz v h db dl du k = true
        · refine lv_t0 (if_pos b_9) ?_
          refine lv_istore_n (lv' := [(3, .int 1), (2, .int (29 + (5 * (nI k)))), (0, .ref am), (1, .int (nI k))]) hx hb dX8_looks_24 rfl hl (by decide) rfl (fun ls hl => ?_)
          refine lv_aload_n hx hb dX8_looks_25 rfl (lv_at hl 2 rfl) ?_
          refine va_get (D := G) (ci := 12) (v := .ref aS) (C := RX8) (T := TX8) (N := 18) hx hb hts hi12 hown hK.1 hP 0 rfl rfl 0 (by decide) hf9 (fun _ h9 => h9) rfl dX8_looks_26 ?_
          refine lv_iload_n hx hb dX8_looks_29 rfl (lv_at hl 1 rfl) ?_
          refine lv_iconst (v := 3) hx hb dX8_looks_30 (by decide) ?_
          refine lv_iadd hx hb dX8_looks_31 ?_
          refine lv_dup2_11 hx hb dX8_looks_32 rfl rfl ?_
          refine m_iald hx hb hK hP 1 (k := (29 + (5 * k)) + 3) rfl (m_add (m_add rfl (m_mul rfl rfl)) rfl) (by omega) (Nat.le_of_ble_eq_true rfl) dX8_looks_33 ?_
          refine lv_t0 (encR_dq (b := k) (by omega) (by omega)) ?_
          refine lv_aload_n hx hb dX8_looks_34 rfl (lv_at hl 2 rfl) ?_
          refine va_get (D := G) (ci := 12) (v := .ref aS) (C := RX8) (T := TX8) (N := 18) hx hb hts hi12 hown hK.1 hP 0 rfl rfl 0 (by decide) hf9 (fun _ h9 => h9) rfl dX8_looks_35 ?_
          refine lv_iload_n hx hb dX8_looks_38 rfl (lv_at hl 1 rfl) ?_
          refine lv_iconst (v := 4) hx hb dX8_looks_39 (by decide) ?_
          refine lv_iadd hx hb dX8_looks_40 ?_
          refine m_iald hx hb hK hP 1 (k := (29 + (5 * k)) + 4) rfl (m_add (m_add rfl (m_mul rfl rfl)) rfl) (by omega) (Nat.le_of_ble_eq_true rfl) dX8_looks_41 ?_
          refine lv_t0 (encR_dw (b := k) (by omega) (by omega)) ?_
          refine lv_iconst (v := 1) hx hb dX8_looks_42 (by decide) ?_
          refine lv_icmp_ne (tgt := 54) hx hb dX8_looks_43 (by decide) (fun c_10 => ?_) (fun c_10 => ?_)
          · have z_11 : ((obsW (plz v h db dl du) dw k) k) = 0 := (obsW_01 hw k k (by omega)).resolve_right c_10
            refine lv_iconst (v := 0) hx hb dX8_looks_54 (by decide) ?_
            refine lv_iadd hx hb dX8_looks_55 ?_
            refine m_iast hx hb hK hP hD hS 1 (k := (29 + (5 * k)) + 3) rfl (m_add (m_add rfl (m_mul rfl rfl)) rfl) (by omega) (Nat.le_of_ble_eq_true rfl) dX8_looks_56 (fun H locs hP hD hS => ?_)
            rw [encU_dq (j := ((29 + (5 * k)) + 3)) (b := k) (by omega) (by omega)] at hP hD
            have hP : va_P G vwCl [(am, .inr (12, [.ref aS, .ref aBf, .ref aAs, .ref aSv, .int iS, .ref aPa, .int (nI K), .int th, .ref aOu, .int (nI OM), .ref aTx, .int (nI LN), .int (nI PO), .int iw, .int ea, .int fa, .ref aCo, .int (nI CM)])), (aS, .inl (cy 2, 89, .inl (encT N v h pl me M db dl du (upd (obsQ (plz v h db dl du) dq dw k) k (((obsQ (plz v h db dl du) dq dw k) k) + 0)) (obsW (plz v h db dl du) dw k) E ek eb el t1 t2 t3 t4 t5 t6)))] H := hP
            have hD : va_D (wA [(am, .inr (12, [.ref aS, .ref aBf, .ref aAs, .ref aSv, .int iS, .ref aPa, .int (nI K), .int th, .ref aOu, .int (nI OM), .ref aTx, .int (nI LN), .int (nI PO), .int iw, .int ea, .int fa, .ref aCo, .int (nI CM)])), (aS, .inl (cy 2, 89, .inl (encT N v h pl me M db dl du dq dw E ek eb el t1 t2 t3 t4 t5 t6)))]) [(am, .inr (12, [.ref aS, .ref aBf, .ref aAs, .ref aSv, .int iS, .ref aPa, .int (nI K), .int th, .ref aOu, .int (nI OM), .ref aTx, .int (nI LN), .int (nI PO), .int iw, .int ea, .int fa, .ref aCo, .int (nI CM)])), (aS, .inl (cy 2, 89, .inl (encT N v h pl me M db dl du (upd (obsQ (plz v h db dl du) dq dw k) k (((obsQ (plz v h db dl du) dq dw k) k) + 0)) (obsW (plz v h db dl du) dw k) E ek eb el t1 t2 t3 t4 t5 t6)))] := hD
            refine lv_aload_n hx hb dX8_looks_57 rfl (lv_at hl 2 rfl) ?_
            refine va_get (D := G) (ci := 12) (v := .ref aS) (C := RX8) (T := TX8) (N := 18) hx hb hts hi12 hown hK.1 hP 0 rfl rfl 0 (by decide) hf9 (fun _ h9 => h9) rfl dX8_looks_58 ?_
            refine lv_iload_n hx hb dX8_looks_61 rfl (lv_at hl 1 rfl) ?_
            refine lv_iconst (v := 4) hx hb dX8_looks_62 (by decide) ?_
            refine lv_iadd hx hb dX8_looks_63 ?_
            refine lv_iload_n hx hb dX8_looks_64 rfl (lv_at hl 0 rfl) ?_
            refine lv_if_eq (tgt := 72) hx hb dX8_looks_65 (by decide) (fun c_12 => ?_) (fun c_12 => ?_)
            · exact absurd c_12 (by decide)
            · refine lv_iconst (v := 1) hx hb dX8_looks_68 (by decide) ?_
              refine lv_goto (tgt := 73) hx hb dX8_looks_69 (by decide) ?_
              refine m_iast hx hb hK hP hD hS 1 (k := (29 + (5 * k)) + 4) rfl (m_add (m_add rfl (m_mul rfl rfl)) rfl) (by omega) (Nat.le_of_ble_eq_true rfl) dX8_looks_73 (fun H locs hP hD hS => ?_)
              rw [encU_dw (j := ((29 + (5 * k)) + 4)) (b := k) (by omega) (by omega)] at hP hD
              have hP : va_P G vwCl [(am, .inr (12, [.ref aS, .ref aBf, .ref aAs, .ref aSv, .int iS, .ref aPa, .int (nI K), .int th, .ref aOu, .int (nI OM), .ref aTx, .int (nI LN), .int (nI PO), .int iw, .int ea, .int fa, .ref aCo, .int (nI CM)])), (aS, .inl (cy 2, 89, .inl (encT N v h pl me M db dl du (upd (obsQ (plz v h db dl du) dq dw k) k (((obsQ (plz v h db dl du) dq dw k) k) + 0)) (upd (obsW (plz v h db dl du) dw k) k 1) E ek eb el t1 t2 t3 t4 t5 t6)))] H := hP
              have hD : va_D (wA [(am, .inr (12, [.ref aS, .ref aBf, .ref aAs, .ref aSv, .int iS, .ref aPa, .int (nI K), .int th, .ref aOu, .int (nI OM), .ref aTx, .int (nI LN), .int (nI PO), .int iw, .int ea, .int fa, .ref aCo, .int (nI CM)])), (aS, .inl (cy 2, 89, .inl (encT N v h pl me M db dl du dq dw E ek eb el t1 t2 t3 t4 t5 t6)))]) [(am, .inr (12, [.ref aS, .ref aBf, .ref aAs, .ref aSv, .int iS, .ref aPa, .int (nI K), .int th, .ref aOu, .int (nI OM), .ref aTx, .int (nI LN), .int (nI PO), .int iw, .int ea, .int fa, .ref aCo, .int (nI CM)])), (aS, .inl (cy 2, 89, .inl (encT N v h pl me M db dl du (upd (obsQ (plz v h db dl du) dq dw k) k (((obsQ (plz v h db dl du) dq dw k) k) + 0)) (upd (obsW (plz v h db dl du) dw k) k 1) E ek eb el t1 t2 t3 t4 t5 t6)))] := hD
              refine lv_iinc (v := nI (k + 1)) (lv' := [(1, .int (nI (k + 1))), (3, .int 1), (2, .int (29 + (5 * (nI k)))), (0, .ref am)]) hx hb dX8_looks_74 hl (k := 3) rfl (m_inc _) (by decide) rfl (fun ls hl => ?_)
              refine lv_goto (tgt := 2) hx hb dX8_looks_77 (by decide) ?_
              have e_13 : encT N v h pl me M db dl du (obsQ (plz v h db dl du) dq dw (k + 1)) (obsW (plz v h db dl du) dw (k + 1)) E ek eb el t1 t2 t3 t4 t5 t6 = encT N v h pl me M db dl du (upd (obsQ (plz v h db dl du) dq dw k) k (((obsQ (plz v h db dl du) dq dw k) k) + 0)) (upd (obsW (plz v h db dl du) dw k) k 1) E ek eb el t1 t2 t3 t4 t5 t6 := (by simp [obsQ, obsW, upd_self, c_6, b_9, z_11])
              exact ih (k + 1) (by omega) H locs (by rw [e_13]; exact hP) (m_D2 hD) hS ls (lv_sub hl [3, 0] rfl)
          · have z_14 : ¬ ((obsW (plz v h db dl du) dw k) k) = 0 := m_fl1 c_10
            refine lv_iload_n hx hb dX8_looks_46 rfl (lv_at hl 0 rfl) ?_
            refine lv_if_ne (tgt := 54) hx hb dX8_looks_47 (by decide) (fun c_15 => ?_) (fun c_15 => ?_)
            · refine lv_iconst (v := 0) hx hb dX8_looks_54 (by decide) ?_
              refine lv_iadd hx hb dX8_looks_55 ?_
              refine m_iast hx hb hK hP hD hS 1 (k := (29 + (5 * k)) + 3) rfl (m_add (m_add rfl (m_mul rfl rfl)) rfl) (by omega) (Nat.le_of_ble_eq_true rfl) dX8_looks_56 (fun H locs hP hD hS => ?_)
              rw [encU_dq (j := ((29 + (5 * k)) + 3)) (b := k) (by omega) (by omega)] at hP hD
              have hP : va_P G vwCl [(am, .inr (12, [.ref aS, .ref aBf, .ref aAs, .ref aSv, .int iS, .ref aPa, .int (nI K), .int th, .ref aOu, .int (nI OM), .ref aTx, .int (nI LN), .int (nI PO), .int iw, .int ea, .int fa, .ref aCo, .int (nI CM)])), (aS, .inl (cy 2, 89, .inl (encT N v h pl me M db dl du (upd (obsQ (plz v h db dl du) dq dw k) k (((obsQ (plz v h db dl du) dq dw k) k) + 0)) (obsW (plz v h db dl du) dw k) E ek eb el t1 t2 t3 t4 t5 t6)))] H := hP
              have hD : va_D (wA [(am, .inr (12, [.ref aS, .ref aBf, .ref aAs, .ref aSv, .int iS, .ref aPa, .int (nI K), .int th, .ref aOu, .int (nI OM), .ref aTx, .int (nI LN), .int (nI PO), .int iw, .int ea, .int fa, .ref aCo, .int (nI CM)])), (aS, .inl (cy 2, 89, .inl (encT N v h pl me M db dl du dq dw E ek eb el t1 t2 t3 t4 t5 t6)))]) [(am, .inr (12, [.ref aS, .ref aBf, .ref aAs, .ref aSv, .int iS, .ref aPa, .int (nI K), .int th, .ref aOu, .int (nI OM), .ref aTx, .int (nI LN), .int (nI PO), .int iw, .int ea, .int fa, .ref aCo, .int (nI CM)])), (aS, .inl (cy 2, 89, .inl (encT N v h pl me M db dl du (upd (obsQ (plz v h db dl du) dq dw k) k (((obsQ (plz v h db dl du) dq dw k) k) + 0)) (obsW (plz v h db dl du) dw k) E ek eb el t1 t2 t3 t4 t5 t6)))] := hD
              refine lv_aload_n hx hb dX8_looks_57 rfl (lv_at hl 2 rfl) ?_
              refine va_get (D := G) (ci := 12) (v := .ref aS) (C := RX8) (T := TX8) (N := 18) hx hb hts hi12 hown hK.1 hP 0 rfl rfl 0 (by decide) hf9 (fun _ h9 => h9) rfl dX8_looks_58 ?_
              refine lv_iload_n hx hb dX8_looks_61 rfl (lv_at hl 1 rfl) ?_
              refine lv_iconst (v := 4) hx hb dX8_looks_62 (by decide) ?_
              refine lv_iadd hx hb dX8_looks_63 ?_
              refine lv_iload_n hx hb dX8_looks_64 rfl (lv_at hl 0 rfl) ?_
              refine lv_if_eq (tgt := 72) hx hb dX8_looks_65 (by decide) (fun c_16 => ?_) (fun c_16 => ?_)
              · exact absurd c_16 (by decide)
              · refine lv_iconst (v := 1) hx hb dX8_looks_68 (by decide) ?_
                refine lv_goto (tgt := 73) hx hb dX8_looks_69 (by decide) ?_
                refine m_iast hx hb hK hP hD hS 1 (k := (29 + (5 * k)) + 4) rfl (m_add (m_add rfl (m_mul rfl rfl)) rfl) (by omega) (Nat.le_of_ble_eq_true rfl) dX8_looks_73 (fun H locs hP hD hS => ?_)
                rw [encU_dw (j := ((29 + (5 * k)) + 4)) (b := k) (by omega) (by omega)] at hP hD
                have hP : va_P G vwCl [(am, .inr (12, [.ref aS, .ref aBf, .ref aAs, .ref aSv, .int iS, .ref aPa, .int (nI K), .int th, .ref aOu, .int (nI OM), .ref aTx, .int (nI LN), .int (nI PO), .int iw, .int ea, .int fa, .ref aCo, .int (nI CM)])), (aS, .inl (cy 2, 89, .inl (encT N v h pl me M db dl du (upd (obsQ (plz v h db dl du) dq dw k) k (((obsQ (plz v h db dl du) dq dw k) k) + 0)) (upd (obsW (plz v h db dl du) dw k) k 1) E ek eb el t1 t2 t3 t4 t5 t6)))] H := hP
                have hD : va_D (wA [(am, .inr (12, [.ref aS, .ref aBf, .ref aAs, .ref aSv, .int iS, .ref aPa, .int (nI K), .int th, .ref aOu, .int (nI OM), .ref aTx, .int (nI LN), .int (nI PO), .int iw, .int ea, .int fa, .ref aCo, .int (nI CM)])), (aS, .inl (cy 2, 89, .inl (encT N v h pl me M db dl du dq dw E ek eb el t1 t2 t3 t4 t5 t6)))]) [(am, .inr (12, [.ref aS, .ref aBf, .ref aAs, .ref aSv, .int iS, .ref aPa, .int (nI K), .int th, .ref aOu, .int (nI OM), .ref aTx, .int (nI LN), .int (nI PO), .int iw, .int ea, .int fa, .ref aCo, .int (nI CM)])), (aS, .inl (cy 2, 89, .inl (encT N v h pl me M db dl du (upd (obsQ (plz v h db dl du) dq dw k) k (((obsQ (plz v h db dl du) dq dw k) k) + 0)) (upd (obsW (plz v h db dl du) dw k) k 1) E ek eb el t1 t2 t3 t4 t5 t6)))] := hD
                refine lv_iinc (v := nI (k + 1)) (lv' := [(1, .int (nI (k + 1))), (3, .int 1), (2, .int (29 + (5 * (nI k)))), (0, .ref am)]) hx hb dX8_looks_74 hl (k := 3) rfl (m_inc _) (by decide) rfl (fun ls hl => ?_)
                refine lv_goto (tgt := 2) hx hb dX8_looks_77 (by decide) ?_
                have e_17 : encT N v h pl me M db dl du (obsQ (plz v h db dl du) dq dw (k + 1)) (obsW (plz v h db dl du) dw (k + 1)) E ek eb el t1 t2 t3 t4 t5 t6 = encT N v h pl me M db dl du (upd (obsQ (plz v h db dl du) dq dw k) k (((obsQ (plz v h db dl du) dq dw k) k) + 0)) (upd (obsW (plz v h db dl du) dw k) k 1) E ek eb el t1 t2 t3 t4 t5 t6 := (by simp [obsQ, obsW, upd_self, c_6, b_9, z_14])
                exact ih (k + 1) (by omega) H locs (by rw [e_17]; exact hP) (m_D2 hD) hS ls (lv_sub hl [3, 0] rfl)
            · exact absurd c_15 (by decide)
        · refine lv_t0 (if_neg b_9) ?_
          refine lv_istore_n (lv' := [(3, .int 0), (2, .int (29 + (5 * (nI k)))), (0, .ref am), (1, .int (nI k))]) hx hb dX8_looks_24 rfl hl (by decide) rfl (fun ls hl => ?_)
          refine lv_aload_n hx hb dX8_looks_25 rfl (lv_at hl 2 rfl) ?_
          refine va_get (D := G) (ci := 12) (v := .ref aS) (C := RX8) (T := TX8) (N := 18) hx hb hts hi12 hown hK.1 hP 0 rfl rfl 0 (by decide) hf9 (fun _ h9 => h9) rfl dX8_looks_26 ?_
          refine lv_iload_n hx hb dX8_looks_29 rfl (lv_at hl 1 rfl) ?_
          refine lv_iconst (v := 3) hx hb dX8_looks_30 (by decide) ?_
          refine lv_iadd hx hb dX8_looks_31 ?_
          refine lv_dup2_11 hx hb dX8_looks_32 rfl rfl ?_
          refine m_iald hx hb hK hP 1 (k := (29 + (5 * k)) + 3) rfl (m_add (m_add rfl (m_mul rfl rfl)) rfl) (by omega) (Nat.le_of_ble_eq_true rfl) dX8_looks_33 ?_
          refine lv_t0 (encR_dq (b := k) (by omega) (by omega)) ?_
          refine lv_aload_n hx hb dX8_looks_34 rfl (lv_at hl 2 rfl) ?_
          refine va_get (D := G) (ci := 12) (v := .ref aS) (C := RX8) (T := TX8) (N := 18) hx hb hts hi12 hown hK.1 hP 0 rfl rfl 0 (by decide) hf9 (fun _ h9 => h9) rfl dX8_looks_35 ?_
          refine lv_iload_n hx hb dX8_looks_38 rfl (lv_at hl 1 rfl) ?_
          refine lv_iconst (v := 4) hx hb dX8_looks_39 (by decide) ?_
          refine lv_iadd hx hb dX8_looks_40 ?_
          refine m_iald hx hb hK hP 1 (k := (29 + (5 * k)) + 4) rfl (m_add (m_add rfl (m_mul rfl rfl)) rfl) (by omega) (Nat.le_of_ble_eq_true rfl) dX8_looks_41 ?_
          refine lv_t0 (encR_dw (b := k) (by omega) (by omega)) ?_
          refine lv_iconst (v := 1) hx hb dX8_looks_42 (by decide) ?_
          refine lv_icmp_ne (tgt := 54) hx hb dX8_looks_43 (by decide) (fun c_18 => ?_) (fun c_18 => ?_)
          · have z_19 : ((obsW (plz v h db dl du) dw k) k) = 0 := (obsW_01 hw k k (by omega)).resolve_right c_18
            refine lv_iconst (v := 0) hx hb dX8_looks_54 (by decide) ?_
            refine lv_iadd hx hb dX8_looks_55 ?_
            refine m_iast hx hb hK hP hD hS 1 (k := (29 + (5 * k)) + 3) rfl (m_add (m_add rfl (m_mul rfl rfl)) rfl) (by omega) (Nat.le_of_ble_eq_true rfl) dX8_looks_56 (fun H locs hP hD hS => ?_)
            rw [encU_dq (j := ((29 + (5 * k)) + 3)) (b := k) (by omega) (by omega)] at hP hD
            have hP : va_P G vwCl [(am, .inr (12, [.ref aS, .ref aBf, .ref aAs, .ref aSv, .int iS, .ref aPa, .int (nI K), .int th, .ref aOu, .int (nI OM), .ref aTx, .int (nI LN), .int (nI PO), .int iw, .int ea, .int fa, .ref aCo, .int (nI CM)])), (aS, .inl (cy 2, 89, .inl (encT N v h pl me M db dl du (upd (obsQ (plz v h db dl du) dq dw k) k (((obsQ (plz v h db dl du) dq dw k) k) + 0)) (obsW (plz v h db dl du) dw k) E ek eb el t1 t2 t3 t4 t5 t6)))] H := hP
            have hD : va_D (wA [(am, .inr (12, [.ref aS, .ref aBf, .ref aAs, .ref aSv, .int iS, .ref aPa, .int (nI K), .int th, .ref aOu, .int (nI OM), .ref aTx, .int (nI LN), .int (nI PO), .int iw, .int ea, .int fa, .ref aCo, .int (nI CM)])), (aS, .inl (cy 2, 89, .inl (encT N v h pl me M db dl du dq dw E ek eb el t1 t2 t3 t4 t5 t6)))]) [(am, .inr (12, [.ref aS, .ref aBf, .ref aAs, .ref aSv, .int iS, .ref aPa, .int (nI K), .int th, .ref aOu, .int (nI OM), .ref aTx, .int (nI LN), .int (nI PO), .int iw, .int ea, .int fa, .ref aCo, .int (nI CM)])), (aS, .inl (cy 2, 89, .inl (encT N v h pl me M db dl du (upd (obsQ (plz v h db dl du) dq dw k) k (((obsQ (plz v h db dl du) dq dw k) k) + 0)) (obsW (plz v h db dl du) dw k) E ek eb el t1 t2 t3 t4 t5 t6)))] := hD
            refine lv_aload_n hx hb dX8_looks_57 rfl (lv_at hl 2 rfl) ?_
            refine va_get (D := G) (ci := 12) (v := .ref aS) (C := RX8) (T := TX8) (N := 18) hx hb hts hi12 hown hK.1 hP 0 rfl rfl 0 (by decide) hf9 (fun _ h9 => h9) rfl dX8_looks_58 ?_
            refine lv_iload_n hx hb dX8_looks_61 rfl (lv_at hl 1 rfl) ?_
            refine lv_iconst (v := 4) hx hb dX8_looks_62 (by decide) ?_
            refine lv_iadd hx hb dX8_looks_63 ?_
            refine lv_iload_n hx hb dX8_looks_64 rfl (lv_at hl 0 rfl) ?_
            refine lv_if_eq (tgt := 72) hx hb dX8_looks_65 (by decide) (fun c_20 => ?_) (fun c_20 => ?_)
            · refine lv_iconst (v := 0) hx hb dX8_looks_72 (by decide) ?_
              refine m_iast hx hb hK hP hD hS 1 (k := (29 + (5 * k)) + 4) rfl (m_add (m_add rfl (m_mul rfl rfl)) rfl) (by omega) (Nat.le_of_ble_eq_true rfl) dX8_looks_73 (fun H locs hP hD hS => ?_)
              rw [encU_dw (j := ((29 + (5 * k)) + 4)) (b := k) (by omega) (by omega)] at hP hD
              have hP : va_P G vwCl [(am, .inr (12, [.ref aS, .ref aBf, .ref aAs, .ref aSv, .int iS, .ref aPa, .int (nI K), .int th, .ref aOu, .int (nI OM), .ref aTx, .int (nI LN), .int (nI PO), .int iw, .int ea, .int fa, .ref aCo, .int (nI CM)])), (aS, .inl (cy 2, 89, .inl (encT N v h pl me M db dl du (upd (obsQ (plz v h db dl du) dq dw k) k (((obsQ (plz v h db dl du) dq dw k) k) + 0)) (upd (obsW (plz v h db dl du) dw k) k 0) E ek eb el t1 t2 t3 t4 t5 t6)))] H := hP
              have hD : va_D (wA [(am, .inr (12, [.ref aS, .ref aBf, .ref aAs, .ref aSv, .int iS, .ref aPa, .int (nI K), .int th, .ref aOu, .int (nI OM), .ref aTx, .int (nI LN), .int (nI PO), .int iw, .int ea, .int fa, .ref aCo, .int (nI CM)])), (aS, .inl (cy 2, 89, .inl (encT N v h pl me M db dl du dq dw E ek eb el t1 t2 t3 t4 t5 t6)))]) [(am, .inr (12, [.ref aS, .ref aBf, .ref aAs, .ref aSv, .int iS, .ref aPa, .int (nI K), .int th, .ref aOu, .int (nI OM), .ref aTx, .int (nI LN), .int (nI PO), .int iw, .int ea, .int fa, .ref aCo, .int (nI CM)])), (aS, .inl (cy 2, 89, .inl (encT N v h pl me M db dl du (upd (obsQ (plz v h db dl du) dq dw k) k (((obsQ (plz v h db dl du) dq dw k) k) + 0)) (upd (obsW (plz v h db dl du) dw k) k 0) E ek eb el t1 t2 t3 t4 t5 t6)))] := hD
              refine lv_iinc (v := nI (k + 1)) (lv' := [(1, .int (nI (k + 1))), (3, .int 0), (2, .int (29 + (5 * (nI k)))), (0, .ref am)]) hx hb dX8_looks_74 hl (k := 3) rfl (m_inc _) (by decide) rfl (fun ls hl => ?_)
              refine lv_goto (tgt := 2) hx hb dX8_looks_77 (by decide) ?_
              have e_21 : encT N v h pl me M db dl du (obsQ (plz v h db dl du) dq dw (k + 1)) (obsW (plz v h db dl du) dw (k + 1)) E ek eb el t1 t2 t3 t4 t5 t6 = encT N v h pl me M db dl du (upd (obsQ (plz v h db dl du) dq dw k) k (((obsQ (plz v h db dl du) dq dw k) k) + 0)) (upd (obsW (plz v h db dl du) dw k) k 0) E ek eb el t1 t2 t3 t4 t5 t6 := (by simp [obsQ, obsW, upd_self, c_6, b_9, z_19])
              exact ih (k + 1) (by omega) H locs (by rw [e_21]; exact hP) (m_D2 hD) hS ls (lv_sub hl [3, 0] rfl)
            · exact absurd c_20 (by decide)
          · have z_22 : ¬ ((obsW (plz v h db dl du) dw k) k) = 0 := m_fl1 c_18
            refine lv_iload_n hx hb dX8_looks_46 rfl (lv_at hl 0 rfl) ?_
            refine lv_if_ne (tgt := 54) hx hb dX8_looks_47 (by decide) (fun c_23 => ?_) (fun c_23 => ?_)
            · exact absurd c_23 (by decide)
            · refine lv_iconst (v := 1) hx hb dX8_looks_50 (by decide) ?_
              refine lv_goto (tgt := 55) hx hb dX8_looks_51 (by decide) ?_
              refine lv_iadd hx hb dX8_looks_55 ?_
              refine m_iast hx hb hK hP hD hS 1 (k := (29 + (5 * k)) + 3) rfl (m_add (m_add rfl (m_mul rfl rfl)) rfl) (by omega) (Nat.le_of_ble_eq_true rfl) dX8_looks_56 (fun H locs hP hD hS => ?_)
              rw [encU_dq (j := ((29 + (5 * k)) + 3)) (b := k) (by omega) (by omega)] at hP hD
              have hP : va_P G vwCl [(am, .inr (12, [.ref aS, .ref aBf, .ref aAs, .ref aSv, .int iS, .ref aPa, .int (nI K), .int th, .ref aOu, .int (nI OM), .ref aTx, .int (nI LN), .int (nI PO), .int iw, .int ea, .int fa, .ref aCo, .int (nI CM)])), (aS, .inl (cy 2, 89, .inl (encT N v h pl me M db dl du (upd (obsQ (plz v h db dl du) dq dw k) k (((obsQ (plz v h db dl du) dq dw k) k) + 1)) (obsW (plz v h db dl du) dw k) E ek eb el t1 t2 t3 t4 t5 t6)))] H := hP
              have hD : va_D (wA [(am, .inr (12, [.ref aS, .ref aBf, .ref aAs, .ref aSv, .int iS, .ref aPa, .int (nI K), .int th, .ref aOu, .int (nI OM), .ref aTx, .int (nI LN), .int (nI PO), .int iw, .int ea, .int fa, .ref aCo, .int (nI CM)])), (aS, .inl (cy 2, 89, .inl (encT N v h pl me M db dl du dq dw E ek eb el t1 t2 t3 t4 t5 t6)))]) [(am, .inr (12, [.ref aS, .ref aBf, .ref aAs, .ref aSv, .int iS, .ref aPa, .int (nI K), .int th, .ref aOu, .int (nI OM), .ref aTx, .int (nI LN), .int (nI PO), .int iw, .int ea, .int fa, .ref aCo, .int (nI CM)])), (aS, .inl (cy 2, 89, .inl (encT N v h pl me M db dl du (upd (obsQ (plz v h db dl du) dq dw k) k (((obsQ (plz v h db dl du) dq dw k) k) + 1)) (obsW (plz v h db dl du) dw k) E ek eb el t1 t2 t3 t4 t5 t6)))] := hD
              refine lv_aload_n hx hb dX8_looks_57 rfl (lv_at hl 2 rfl) ?_
              refine va_get (D := G) (ci := 12) (v := .ref aS) (C := RX8) (T := TX8) (N := 18) hx hb hts hi12 hown hK.1 hP 0 rfl rfl 0 (by decide) hf9 (fun _ h9 => h9) rfl dX8_looks_58 ?_
              refine lv_iload_n hx hb dX8_looks_61 rfl (lv_at hl 1 rfl) ?_
              refine lv_iconst (v := 4) hx hb dX8_looks_62 (by decide) ?_
              refine lv_iadd hx hb dX8_looks_63 ?_
              refine lv_iload_n hx hb dX8_looks_64 rfl (lv_at hl 0 rfl) ?_
              refine lv_if_eq (tgt := 72) hx hb dX8_looks_65 (by decide) (fun c_24 => ?_) (fun c_24 => ?_)
              · refine lv_iconst (v := 0) hx hb dX8_looks_72 (by decide) ?_
                refine m_iast hx hb hK hP hD hS 1 (k := (29 + (5 * k)) + 4) rfl (m_add (m_add rfl (m_mul rfl rfl)) rfl) (by omega) (Nat.le_of_ble_eq_true rfl) dX8_looks_73 (fun H locs hP hD hS => ?_)
                rw [encU_dw (j := ((29 + (5 * k)) + 4)) (b := k) (by omega) (by omega)] at hP hD
                have hP : va_P G vwCl [(am, .inr (12, [.ref aS, .ref aBf, .ref aAs, .ref aSv, .int iS, .ref aPa, .int (nI K), .int th, .ref aOu, .int (nI OM), .ref aTx, .int (nI LN), .int (nI PO), .int iw, .int ea, .int fa, .ref aCo, .int (nI CM)])), (aS, .inl (cy 2, 89, .inl (encT N v h pl me M db dl du (upd (obsQ (plz v h db dl du) dq dw k) k (((obsQ (plz v h db dl du) dq dw k) k) + 1)) (upd (obsW (plz v h db dl du) dw k) k 0) E ek eb el t1 t2 t3 t4 t5 t6)))] H := hP
                have hD : va_D (wA [(am, .inr (12, [.ref aS, .ref aBf, .ref aAs, .ref aSv, .int iS, .ref aPa, .int (nI K), .int th, .ref aOu, .int (nI OM), .ref aTx, .int (nI LN), .int (nI PO), .int iw, .int ea, .int fa, .ref aCo, .int (nI CM)])), (aS, .inl (cy 2, 89, .inl (encT N v h pl me M db dl du dq dw E ek eb el t1 t2 t3 t4 t5 t6)))]) [(am, .inr (12, [.ref aS, .ref aBf, .ref aAs, .ref aSv, .int iS, .ref aPa, .int (nI K), .int th, .ref aOu, .int (nI OM), .ref aTx, .int (nI LN), .int (nI PO), .int iw, .int ea, .int fa, .ref aCo, .int (nI CM)])), (aS, .inl (cy 2, 89, .inl (encT N v h pl me M db dl du (upd (obsQ (plz v h db dl du) dq dw k) k (((obsQ (plz v h db dl du) dq dw k) k) + 1)) (upd (obsW (plz v h db dl du) dw k) k 0) E ek eb el t1 t2 t3 t4 t5 t6)))] := hD
                refine lv_iinc (v := nI (k + 1)) (lv' := [(1, .int (nI (k + 1))), (3, .int 0), (2, .int (29 + (5 * (nI k)))), (0, .ref am)]) hx hb dX8_looks_74 hl (k := 3) rfl (m_inc _) (by decide) rfl (fun ls hl => ?_)
                refine lv_goto (tgt := 2) hx hb dX8_looks_77 (by decide) ?_
                have e_25 : encT N v h pl me M db dl du (obsQ (plz v h db dl du) dq dw (k + 1)) (obsW (plz v h db dl du) dw (k + 1)) E ek eb el t1 t2 t3 t4 t5 t6 = encT N v h pl me M db dl du (upd (obsQ (plz v h db dl du) dq dw k) k (((obsQ (plz v h db dl du) dq dw k) k) + 1)) (upd (obsW (plz v h db dl du) dw k) k 0) E ek eb el t1 t2 t3 t4 t5 t6 := (by simp [obsQ, obsW, upd_self, c_6, b_9, z_22])
                exact ih (k + 1) (by omega) H locs (by rw [e_25]; exact hP) (m_D2 hD) hS ls (lv_sub hl [3, 0] rfl)
              · exact absurd c_24 (by decide)
  exact L_1 M 0 (by omega) _ _ hP (m_D2 hD) hS ls (lv_sub hl [1, 0] rfl)

set_option maxRecDepth 100000 in
set_option maxHeartbeats 1000000 in
theorem c_X8_happens (l : Launch) (G : va_G) (cy : Nat → ClassId) (am aS aBf aAs aSv aPa aOu aTx aCo K OM LN PO CM : Nat) (iS th iw ea fa : Int32) (N : Nat) (v h pl me : Nat → Int32) (M : Nat) (db dl du dq dw : Nat → Int32) (E : Nat) (ek eb el : Nat → Int32) (t1 t2 t3 t4 t5 t6 x b q : Int32) (hE : E ≤ 10) : WC l yX8_happens wsX8_happens { frames := 1, cells := 0, slots := 0, locals := 26 } G (PB G cy [(am, .inr (12, [.ref aS, .ref aBf, .ref aAs, .ref aSv, .int iS, .ref aPa, .int (nI K), .int th, .ref aOu, .int (nI OM), .ref aTx, .int (nI LN), .int (nI PO), .int iw, .int ea, .int fa, .ref aCo, .int (nI CM)])), (aS, .inl (cy 2, 89, .inl (encT N v h pl me M db dl du dq dw E ek eb el t1 t2 t3 t4 t5 t6)))]) [.ref am, .int x, .int b, .int (litq q)] [(am, .inr (12, [.ref aS, .ref aBf, .ref aAs, .ref aSv, .int iS, .ref aPa, .int (nI K), .int th, .ref aOu, .int (nI OM), .ref aTx, .int (nI LN), .int (nI PO), .int iw, .int ea, .int fa, .ref aCo, .int (nI CM)])), (aS, .inl (cy 2, 89, .inl (encT N v h pl me M db dl du dq dw E ek eb el t1 t2 t3 t4 t5 t6)))] [(am, .inr (12, [.ref aS, .ref aBf, .ref aAs, .ref aSv, .int iS, .ref aPa, .int (nI K), .int th, .ref aOu, .int (nI OM), .ref aTx, .int (nI LN), .int (nI PO), .int iw, .int ea, .int fa, .ref aCo, .int (nI CM)])), (aS, .inl (cy 2, 89, .inl (encT N v h pl me M db dl du dq dw (evc E) (psh ek x) (psh eb b) (psh el q) t1 t2 t3 t4 t5 t6)))] (none) := by
  refine WC.ofW (cc := cX8_happens) (maxL := 4) (ret := none) (by decide) rfl (Nat.le_of_ble_eq_true rfl) ?_
  intro p e s m below meth c S9 hr hlocks hPB hD hS ls hl
  obtain ⟨hx, hb, hml, hown, hts⟩ := id S9
  obtain ⟨hP, hK⟩ := hPB
  have hl : lv_has ls 4 [(0, .ref am), (1, .int x), (2, .int b), (3, .int (litq q))] := hl
  have hi12 : ∀ w ∈ wsX80, w ∈ wsX8_happens := by decide +kernel
  have hf9 := hts (.fieldLink RX8 9 "BathLeagueModel" "s" "[I") (by decide +kernel)
  have hmm1 := hts (.methodLink RX8 76 Lib.Math.min.name) (by decide +kernel)
  have hmm2 := hts (.static Lib.Math.min.name) (by decide +kernel)
  have hmm3 := hts (.initialized "java/lang/Math") (by decide +kernel)
  have hmm4 := hts (.code Lib.Math.min.name Lib.Math.min.code 2 (some .int)) (by decide +kernel)
  have hac1 := hts (.methodLink RX8 45 arraycopyName) (by decide +kernel)
  have hac2 := hts (.native arraycopyName) (by decide +kernel)
  have hac3 := hts (.static arraycopyName) (by decide +kernel)
  have hac4 := hts (.initialized "java/lang/System") (by decide +kernel)
  refine lv_aload_n hx hb dX8_happens_0 rfl (lv_at hl 0 rfl) ?_
  refine va_get (D := G) (ci := 12) (v := .ref aS) (C := RX8) (T := TX8) (N := 18) hx hb hts hi12 hown hK.1 hP 0 rfl rfl 0 (by decide) hf9 (fun _ h9 => h9) rfl dX8_happens_1 ?_
  refine lv_bipush (v := 59) hx hb dX8_happens_4 (by decide) ?_
  refine lv_aload_n hx hb dX8_happens_6 rfl (lv_at hl 0 rfl) ?_
  refine va_get (D := G) (ci := 12) (v := .ref aS) (C := RX8) (T := TX8) (N := 18) hx hb hts hi12 hown hK.1 hP 0 rfl rfl 0 (by decide) hf9 (fun _ h9 => h9) rfl dX8_happens_7 ?_
  refine lv_bipush (v := 62) hx hb dX8_happens_10 (by decide) ?_
  refine lv_bipush (v := 27) hx hb dX8_happens_12 (by decide) ?_
  refine m_copyi hx hb (hml.trans hl.1.symm) hown hac1 hac2 hac3 hac4 hK hP hD hS 1 1 (sp := 59) (dp := 62) (n := 27) rfl rfl rfl rfl rfl (by omega) (by omega) (by decide) (Nat.le_of_ble_eq_true rfl) (Nat.le_of_ble_eq_true rfl) (Nat.le_of_ble_eq_true rfl) dX8_happens_14 (fun H locs hP hD hS => ?_)
  have hP : va_P G vwCl [(am, .inr (12, [.ref aS, .ref aBf, .ref aAs, .ref aSv, .int iS, .ref aPa, .int (nI K), .int th, .ref aOu, .int (nI OM), .ref aTx, .int (nI LN), .int (nI PO), .int iw, .int ea, .int fa, .ref aCo, .int (nI CM)])), (aS, .inl (cy 2, 89, .inl (va_cpy (encT N v h pl me M db dl du dq dw E ek eb el t1 t2 t3 t4 t5 t6) (encT N v h pl me M db dl du dq dw E ek eb el t1 t2 t3 t4 t5 t6) 59 62 27)))] H := hP
  have hD : va_D (wA [(am, .inr (12, [.ref aS, .ref aBf, .ref aAs, .ref aSv, .int iS, .ref aPa, .int (nI K), .int th, .ref aOu, .int (nI OM), .ref aTx, .int (nI LN), .int (nI PO), .int iw, .int ea, .int fa, .ref aCo, .int (nI CM)])), (aS, .inl (cy 2, 89, .inl (encT N v h pl me M db dl du dq dw E ek eb el t1 t2 t3 t4 t5 t6)))]) [(am, .inr (12, [.ref aS, .ref aBf, .ref aAs, .ref aSv, .int iS, .ref aPa, .int (nI K), .int th, .ref aOu, .int (nI OM), .ref aTx, .int (nI LN), .int (nI PO), .int iw, .int ea, .int fa, .ref aCo, .int (nI CM)])), (aS, .inl (cy 2, 89, .inl (va_cpy (encT N v h pl me M db dl du dq dw E ek eb el t1 t2 t3 t4 t5 t6) (encT N v h pl me M db dl du dq dw E ek eb el t1 t2 t3 t4 t5 t6) 59 62 27)))] := hD
  refine lv_aload_n hx hb dX8_happens_17 rfl (lv_at hl 0 rfl) ?_
  refine va_get (D := G) (ci := 12) (v := .ref aS) (C := RX8) (T := TX8) (N := 18) hx hb hts hi12 hown hK.1 hP 0 rfl rfl 0 (by decide) hf9 (fun _ h9 => h9) rfl dX8_happens_18 ?_
  refine lv_bipush (v := 59) hx hb dX8_happens_21 (by decide) ?_
  refine lv_iload_n hx hb dX8_happens_23 rfl (lv_at hl 1 rfl) ?_
  refine m_iast hx hb hK hP hD hS 1 (k := 59) rfl rfl (by omega) (Nat.le_of_ble_eq_true rfl) dX8_happens_24 (fun H locs hP hD hS => ?_)
  have hP : va_P G vwCl [(am, .inr (12, [.ref aS, .ref aBf, .ref aAs, .ref aSv, .int iS, .ref aPa, .int (nI K), .int th, .ref aOu, .int (nI OM), .ref aTx, .int (nI LN), .int (nI PO), .int iw, .int ea, .int fa, .ref aCo, .int (nI CM)])), (aS, .inl (cy 2, 89, .inl (upd (va_cpy (encT N v h pl me M db dl du dq dw E ek eb el t1 t2 t3 t4 t5 t6) (encT N v h pl me M db dl du dq dw E ek eb el t1 t2 t3 t4 t5 t6) 59 62 27) 59 x)))] H := hP
  have hD : va_D (wA [(am, .inr (12, [.ref aS, .ref aBf, .ref aAs, .ref aSv, .int iS, .ref aPa, .int (nI K), .int th, .ref aOu, .int (nI OM), .ref aTx, .int (nI LN), .int (nI PO), .int iw, .int ea, .int fa, .ref aCo, .int (nI CM)])), (aS, .inl (cy 2, 89, .inl (encT N v h pl me M db dl du dq dw E ek eb el t1 t2 t3 t4 t5 t6)))]) [(am, .inr (12, [.ref aS, .ref aBf, .ref aAs, .ref aSv, .int iS, .ref aPa, .int (nI K), .int th, .ref aOu, .int (nI OM), .ref aTx, .int (nI LN), .int (nI PO), .int iw, .int ea, .int fa, .ref aCo, .int (nI CM)])), (aS, .inl (cy 2, 89, .inl (upd (va_cpy (encT N v h pl me M db dl du dq dw E ek eb el t1 t2 t3 t4 t5 t6) (encT N v h pl me M db dl du dq dw E ek eb el t1 t2 t3 t4 t5 t6) 59 62 27) 59 x)))] := hD
  refine lv_aload_n hx hb dX8_happens_25 rfl (lv_at hl 0 rfl) ?_
  refine va_get (D := G) (ci := 12) (v := .ref aS) (C := RX8) (T := TX8) (N := 18) hx hb hts hi12 hown hK.1 hP 0 rfl rfl 0 (by decide) hf9 (fun _ h9 => h9) rfl dX8_happens_26 ?_
  refine lv_bipush (v := 60) hx hb dX8_happens_29 (by decide) ?_
  refine lv_iload_n hx hb dX8_happens_31 rfl (lv_at hl 2 rfl) ?_
  refine m_iast hx hb hK hP hD hS 1 (k := 60) rfl rfl (by omega) (Nat.le_of_ble_eq_true rfl) dX8_happens_32 (fun H locs hP hD hS => ?_)
  have hP : va_P G vwCl [(am, .inr (12, [.ref aS, .ref aBf, .ref aAs, .ref aSv, .int iS, .ref aPa, .int (nI K), .int th, .ref aOu, .int (nI OM), .ref aTx, .int (nI LN), .int (nI PO), .int iw, .int ea, .int fa, .ref aCo, .int (nI CM)])), (aS, .inl (cy 2, 89, .inl (upd (upd (va_cpy (encT N v h pl me M db dl du dq dw E ek eb el t1 t2 t3 t4 t5 t6) (encT N v h pl me M db dl du dq dw E ek eb el t1 t2 t3 t4 t5 t6) 59 62 27) 59 x) 60 b)))] H := hP
  have hD : va_D (wA [(am, .inr (12, [.ref aS, .ref aBf, .ref aAs, .ref aSv, .int iS, .ref aPa, .int (nI K), .int th, .ref aOu, .int (nI OM), .ref aTx, .int (nI LN), .int (nI PO), .int iw, .int ea, .int fa, .ref aCo, .int (nI CM)])), (aS, .inl (cy 2, 89, .inl (encT N v h pl me M db dl du dq dw E ek eb el t1 t2 t3 t4 t5 t6)))]) [(am, .inr (12, [.ref aS, .ref aBf, .ref aAs, .ref aSv, .int iS, .ref aPa, .int (nI K), .int th, .ref aOu, .int (nI OM), .ref aTx, .int (nI LN), .int (nI PO), .int iw, .int ea, .int fa, .ref aCo, .int (nI CM)])), (aS, .inl (cy 2, 89, .inl (upd (upd (va_cpy (encT N v h pl me M db dl du dq dw E ek eb el t1 t2 t3 t4 t5 t6) (encT N v h pl me M db dl du dq dw E ek eb el t1 t2 t3 t4 t5 t6) 59 62 27) 59 x) 60 b)))] := hD
  refine lv_aload_n hx hb dX8_happens_33 rfl (lv_at hl 0 rfl) ?_
  refine va_get (D := G) (ci := 12) (v := .ref aS) (C := RX8) (T := TX8) (N := 18) hx hb hts hi12 hown hK.1 hP 0 rfl rfl 0 (by decide) hf9 (fun _ h9 => h9) rfl dX8_happens_34 ?_
  refine lv_bipush (v := 61) hx hb dX8_happens_37 (by decide) ?_
  refine lv_iload_n hx hb dX8_happens_39 rfl (lv_at hl 3 rfl) ?_
  refine m_iast hx hb hK hP hD hS 1 (k := 61) rfl rfl (by omega) (Nat.le_of_ble_eq_true rfl) dX8_happens_40 (fun H locs hP hD hS => ?_)
  have hP : va_P G vwCl [(am, .inr (12, [.ref aS, .ref aBf, .ref aAs, .ref aSv, .int iS, .ref aPa, .int (nI K), .int th, .ref aOu, .int (nI OM), .ref aTx, .int (nI LN), .int (nI PO), .int iw, .int ea, .int fa, .ref aCo, .int (nI CM)])), (aS, .inl (cy 2, 89, .inl (upd (upd (upd (va_cpy (encT N v h pl me M db dl du dq dw E ek eb el t1 t2 t3 t4 t5 t6) (encT N v h pl me M db dl du dq dw E ek eb el t1 t2 t3 t4 t5 t6) 59 62 27) 59 x) 60 b) 61 (litq q))))] H := hP
  have hD : va_D (wA [(am, .inr (12, [.ref aS, .ref aBf, .ref aAs, .ref aSv, .int iS, .ref aPa, .int (nI K), .int th, .ref aOu, .int (nI OM), .ref aTx, .int (nI LN), .int (nI PO), .int iw, .int ea, .int fa, .ref aCo, .int (nI CM)])), (aS, .inl (cy 2, 89, .inl (encT N v h pl me M db dl du dq dw E ek eb el t1 t2 t3 t4 t5 t6)))]) [(am, .inr (12, [.ref aS, .ref aBf, .ref aAs, .ref aSv, .int iS, .ref aPa, .int (nI K), .int th, .ref aOu, .int (nI OM), .ref aTx, .int (nI LN), .int (nI PO), .int iw, .int ea, .int fa, .ref aCo, .int (nI CM)])), (aS, .inl (cy 2, 89, .inl (upd (upd (upd (va_cpy (encT N v h pl me M db dl du dq dw E ek eb el t1 t2 t3 t4 t5 t6) (encT N v h pl me M db dl du dq dw E ek eb el t1 t2 t3 t4 t5 t6) 59 62 27) 59 x) 60 b) 61 (litq q))))] := hD
  refine lv_aload_n hx hb dX8_happens_41 rfl (lv_at hl 0 rfl) ?_
  refine va_get (D := G) (ci := 12) (v := .ref aS) (C := RX8) (T := TX8) (N := 18) hx hb hts hi12 hown hK.1 hP 0 rfl rfl 0 (by decide) hf9 (fun _ h9 => h9) rfl dX8_happens_42 ?_
  refine lv_iconst (v := 2) hx hb dX8_happens_45 (by decide) ?_
  refine lv_bipush (v := 10) hx hb dX8_happens_46 (by decide) ?_
  refine lv_aload_n hx hb dX8_happens_48 rfl (lv_at hl 0 rfl) ?_
  refine va_get (D := G) (ci := 12) (v := .ref aS) (C := RX8) (T := TX8) (N := 18) hx hb hts hi12 hown hK.1 hP 0 rfl rfl 0 (by decide) hf9 (fun _ h9 => h9) rfl dX8_happens_49 ?_
  refine lv_iconst (v := 2) hx hb dX8_happens_52 (by decide) ?_
  refine m_iald hx hb hK hP 1 (k := 2) rfl rfl (by omega) (Nat.le_of_ble_eq_true rfl) dX8_happens_53 ?_
  refine lv_iconst (v := 1) hx hb dX8_happens_54 (by decide) ?_
  refine lv_iadd hx hb dX8_happens_55 ?_
  refine va_mmin hx hb (hml.trans hl.1.symm) hown hmm1 hmm2 hmm3 hmm4 (by decide) (Nat.le_of_ble_eq_true rfl) (Nat.zero_le _) (Nat.zero_le _) dX8_happens_56 ?_
  refine m_iast hx hb hK hP hD hS 1 (k := 2) rfl rfl (by omega) (Nat.le_of_ble_eq_true rfl) dX8_happens_59 (fun H locs hP hD hS => ?_)
  have hP : va_P G vwCl [(am, .inr (12, [.ref aS, .ref aBf, .ref aAs, .ref aSv, .int iS, .ref aPa, .int (nI K), .int th, .ref aOu, .int (nI OM), .ref aTx, .int (nI LN), .int (nI PO), .int iw, .int ea, .int fa, .ref aCo, .int (nI CM)])), (aS, .inl (cy 2, 89, .inl (upd (upd (upd (upd (va_cpy (encT N v h pl me M db dl du dq dw E ek eb el t1 t2 t3 t4 t5 t6) (encT N v h pl me M db dl du dq dw E ek eb el t1 t2 t3 t4 t5 t6) 59 62 27) 59 x) 60 b) 61 (litq q)) 2 (if ((upd (upd (upd (va_cpy (encT N v h pl me M db dl du dq dw E ek eb el t1 t2 t3 t4 t5 t6) (encT N v h pl me M db dl du dq dw E ek eb el t1 t2 t3 t4 t5 t6) 59 62 27) 59 x) 60 b) 61 (litq q)) 2) + 1 < 10 then ((upd (upd (upd (va_cpy (encT N v h pl me M db dl du dq dw E ek eb el t1 t2 t3 t4 t5 t6) (encT N v h pl me M db dl du dq dw E ek eb el t1 t2 t3 t4 t5 t6) 59 62 27) 59 x) 60 b) 61 (litq q)) 2) + 1 else 10))))] H := hP
  have hD : va_D (wA [(am, .inr (12, [.ref aS, .ref aBf, .ref aAs, .ref aSv, .int iS, .ref aPa, .int (nI K), .int th, .ref aOu, .int (nI OM), .ref aTx, .int (nI LN), .int (nI PO), .int iw, .int ea, .int fa, .ref aCo, .int (nI CM)])), (aS, .inl (cy 2, 89, .inl (encT N v h pl me M db dl du dq dw E ek eb el t1 t2 t3 t4 t5 t6)))]) [(am, .inr (12, [.ref aS, .ref aBf, .ref aAs, .ref aSv, .int iS, .ref aPa, .int (nI K), .int th, .ref aOu, .int (nI OM), .ref aTx, .int (nI LN), .int (nI PO), .int iw, .int ea, .int fa, .ref aCo, .int (nI CM)])), (aS, .inl (cy 2, 89, .inl (upd (upd (upd (upd (va_cpy (encT N v h pl me M db dl du dq dw E ek eb el t1 t2 t3 t4 t5 t6) (encT N v h pl me M db dl du dq dw E ek eb el t1 t2 t3 t4 t5 t6) 59 62 27) 59 x) 60 b) 61 (litq q)) 2 (if ((upd (upd (upd (va_cpy (encT N v h pl me M db dl du dq dw E ek eb el t1 t2 t3 t4 t5 t6) (encT N v h pl me M db dl du dq dw E ek eb el t1 t2 t3 t4 t5 t6) 59 62 27) 59 x) 60 b) 61 (litq q)) 2) + 1 < 10 then ((upd (upd (upd (va_cpy (encT N v h pl me M db dl du dq dw E ek eb el t1 t2 t3 t4 t5 t6) (encT N v h pl me M db dl du dq dw E ek eb el t1 t2 t3 t4 t5 t6) 59 62 27) 59 x) 60 b) 61 (litq q)) 2) + 1 else 10))))] := hD
  exact wc_vret hx hb hr hlocks (va_P.ext hP 1 rfl (fun j hj => enc_hap (evc_eq hE).symm j hj)) hS dX8_happens_60

set_option maxRecDepth 100000 in
set_option maxHeartbeats 1000000 in
theorem c_X8_members (l : Launch) (G : va_G) (cy : Nat → ClassId) (am aS aBf aAs aSv aPa aOu aTx aCo K OM LN PO CM : Nat) (iS th iw ea fa : Int32) (N : Nat) (v h pl me : Nat → Int32) (M : Nat) (db dl du dq dw : Nat → Int32) (E : Nat) (ek eb el : Nat → Int32) (t1 t2 t3 t4 t5 t6 : Int32) (hN : N ≤ 5) (hm : ∀ j, j < 5 → me j = 0 ∨ me j = 1) : RO l yX8_members wsX8_members { frames := 1, cells := 0, slots := 0, locals := 22 } (PB G cy [(am, .inr (12, [.ref aS, .ref aBf, .ref aAs, .ref aSv, .int iS, .ref aPa, .int (nI K), .int th, .ref aOu, .int (nI OM), .ref aTx, .int (nI LN), .int (nI PO), .int iw, .int ea, .int fa, .ref aCo, .int (nI CM)])), (aS, .inl (cy 2, 89, .inl (encT N v h pl me M db dl du dq dw E ek eb el t1 t2 t3 t4 t5 t6)))]) [.ref am] (some (.int (cntM me N))) := by
  refine RO.ofW (cc := cX8_members) (maxL := 3) (ret := (some .int)) (by decide) rfl (Nat.le_of_ble_eq_true rfl) ?_
  intro p e s m below meth c S9 hr hlocks hPB ls hl
  obtain ⟨hx, hb, hml, hown, hts⟩ := id S9
  obtain ⟨hP, hK⟩ := hPB
  have hl : lv_has ls 3 [(0, .ref am)] := hl
  have hi12 : ∀ w ∈ wsX80, w ∈ wsX8_members := by decide +kernel
  have hf9 := hts (.fieldLink RX8 9 "BathLeagueModel" "s" "[I") (by decide +kernel)
  refine lv_iconst (v := 0) hx hb dX8_members_0 (by decide) ?_
  refine lv_istore_n (lv' := [(1, .int 0), (0, .ref am)]) hx hb dX8_members_1 rfl hl (by decide) rfl (fun ls hl => ?_)
  refine lv_iconst (v := 0) hx hb dX8_members_2 (by decide) ?_
  refine lv_istore_n (lv' := [(2, .int 0), (1, .int 0), (0, .ref am)]) hx hb dX8_members_3 rfl hl (by decide) rfl (fun ls hl => ?_)
  have L_1 : ∀ (d k : Nat), k + d = N → ∀ ls : Array Slot, lv_has ls 3 [(0, .ref am), (1, .int (cntM me k)), (2, .int (nI k))] → W p l e ({ frames := 1, cells := 0, slots := 0, locals := 22 } : Room) s m ([.ref am] : List Value).toArray below meth c s.heap [] 0 0 (roZ below ([.ref am] : List Value).toArray s (some (.int (cntM me N)))) (F0 m 4 ls []) := by
    intro d
    induction d with
    | zero =>
      intro k hkk ls hl
      refine lv_iload_n hx hb dX8_members_4 rfl (lv_at hl 2 rfl) ?_
      refine lv_aload_n hx hb dX8_members_5 rfl (lv_at hl 0 rfl) ?_
      refine va_get (D := G) (ci := 12) (v := .ref aS) (C := RX8) (T := TX8) (N := 18) hx hb hts hi12 hown hK.1 hP 0 rfl rfl 0 (by decide) hf9 (fun _ h9 => h9) rfl dX8_members_6 ?_
      refine lv_iconst (v := 0) hx hb dX8_members_9 (by decide) ?_
      refine m_iald hx hb hK hP 1 (k := 0) rfl rfl (by omega) (Nat.le_of_ble_eq_true rfl) dX8_members_10 ?_
      refine lv_t0 (encR_0 rfl) ?_
      refine lv_icmp_ge (tgt := 29) hx hb dX8_members_11 (by decide) (fun c_2 => ?_) (fun c_2 => ?_)
      · have k_3 : N ≤ k := (m_leN (a := N) (b := k) rfl rfl (by omega) (by omega)).mp c_2
        have k_3' : ¬ (k < N) := by omega
        refine lv_iload_n hx hb dX8_members_29 rfl (lv_at hl 1 rfl) ?_
        exact ro_iret hx hb hr hlocks (by rw [show k = N by omega]) dX8_members_30
      · have k_4 : ¬ (N ≤ k) := fun z => c_2 ((m_leN (a := N) (b := k) rfl rfl (by omega) (by omega)).mpr z)
        have k_4' : k < N := by omega
        exfalso; omega
    | succ d ih =>
      intro k hkk ls hl
      refine lv_iload_n hx hb dX8_members_4 rfl (lv_at hl 2 rfl) ?_
      refine lv_aload_n hx hb dX8_members_5 rfl (lv_at hl 0 rfl) ?_
      refine va_get (D := G) (ci := 12) (v := .ref aS) (C := RX8) (T := TX8) (N := 18) hx hb hts hi12 hown hK.1 hP 0 rfl rfl 0 (by decide) hf9 (fun _ h9 => h9) rfl dX8_members_6 ?_
      refine lv_iconst (v := 0) hx hb dX8_members_9 (by decide) ?_
      refine m_iald hx hb hK hP 1 (k := 0) rfl rfl (by omega) (Nat.le_of_ble_eq_true rfl) dX8_members_10 ?_
      refine lv_t0 (encR_0 rfl) ?_
      refine lv_icmp_ge (tgt := 29) hx hb dX8_members_11 (by decide) (fun c_5 => ?_) (fun c_5 => ?_)
      · have k_6 : N ≤ k := (m_leN (a := N) (b := k) rfl rfl (by omega) (by omega)).mp c_5
        have k_6' : ¬ (k < N) := by omega
        exfalso; omega
      · have k_7 : ¬ (N ≤ k) := fun z => c_5 ((m_leN (a := N) (b := k) rfl rfl (by omega) (by omega)).mpr z)
        have k_7' : k < N := by omega
        refine lv_iload_n hx hb dX8_members_14 rfl (lv_at hl 1 rfl) ?_
        refine lv_aload_n hx hb dX8_members_15 rfl (lv_at hl 0 rfl) ?_
        refine lv_iload_n hx hb dX8_members_16 rfl (lv_at hl 2 rfl) ?_
        refine lv_iconst (v := 3) hx hb dX8_members_17 (by decide) ?_
        refine c_roVi S9 (c_X8_of_m l G cy am aS aBf aAs aSv aPa aOu aTx aCo K OM LN PO CM iS th iw ea fa N v h pl me M db dl du dq dw E ek eb el t1 t2 t3 t4 t5 t6 k (by omega)) (cwV 2 hts gX8_members_X8_of rfl rfl rfl (by decide +kernel) ⟨Nat.le_of_ble_eq_true rfl, Nat.le_of_ble_eq_true rfl⟩) PB.blind (va_recv hK.1 hP (ci := 12) (q0 := 0) rfl rfl) (PB.at hK (m_Ppart hP [0, 1] rfl)) rfl hl.1 rfl (Nat.le_of_ble_eq_true rfl) ⟨Nat.zero_le _, Nat.zero_le _⟩ dX8_members_18 ?_
        refine lv_iadd hx hb dX8_members_21 ?_
        refine lv_istore_n (lv' := [(1, .int ((cntM me k) + (me k))), (0, .ref am), (2, .int (nI k))]) hx hb dX8_members_22 rfl hl (by decide) rfl (fun ls hl => ?_)
        refine lv_iinc (v := nI (k + 1)) (lv' := [(2, .int (nI (k + 1))), (1, .int ((cntM me k) + (me k))), (0, .ref am)]) hx hb dX8_members_23 hl (k := 2) rfl (m_inc _) (by decide) rfl (fun ls hl => ?_)
        refine lv_goto (tgt := 4) hx hb dX8_members_26 (by decide) ?_
        have e_8 : cntM me (k + 1) = (cntM me k) + (me k) := (cntM_add (hm k (by omega)))
        exact ih (k + 1) (by omega) ls (by rw [e_8]; exact lv_sub hl [2, 1, 0] rfl)
  exact L_1 N 0 (by omega) ls (lv_sub hl [2, 1, 0] rfl)

set_option maxRecDepth 100000 in
set_option maxHeartbeats 1000000 in
theorem c_X8_wetMembers (l : Launch) (G : va_G) (cy : Nat → ClassId) (am aS aBf aAs aSv aPa aOu aTx aCo K OM LN PO CM : Nat) (iS th iw ea fa : Int32) (N : Nat) (v h pl me : Nat → Int32) (M : Nat) (db dl du dq dw : Nat → Int32) (E : Nat) (ek eb el : Nat → Int32) (t1 t2 t3 t4 t5 t6 : Int32) (hN : N ≤ 5) (hm : ∀ j, j < 5 → me j = 0 ∨ me j = 1) : RO l yX8_wetMembers wsX8_wetMembers { frames := 2, cells := 0, slots := 0, locals := 43 } (PB G cy [(am, .inr (12, [.ref aS, .ref aBf, .ref aAs, .ref aSv, .int iS, .ref aPa, .int (nI K), .int th, .ref aOu, .int (nI OM), .ref aTx, .int (nI LN), .int (nI PO), .int iw, .int ea, .int fa, .ref aCo, .int (nI CM)])), (aS, .inl (cy 2, 89, .inl (encT N v h pl me M db dl du dq dw E ek eb el t1 t2 t3 t4 t5 t6)))]) [.ref am] (some (.int (cntW v me N))) := by
  refine RO.ofW (cc := cX8_wetMembers) (maxL := 3) (ret := (some .int)) (by decide) rfl (Nat.le_of_ble_eq_true rfl) ?_
  intro p e s m below meth c S9 hr hlocks hPB ls hl
  obtain ⟨hx, hb, hml, hown, hts⟩ := id S9
  obtain ⟨hP, hK⟩ := hPB
  have hl : lv_has ls 3 [(0, .ref am)] := hl
  have hi12 : ∀ w ∈ wsX80, w ∈ wsX8_wetMembers := by decide +kernel
  have hf9 := hts (.fieldLink RX8 9 "BathLeagueModel" "s" "[I") (by decide +kernel)
  refine lv_iconst (v := 0) hx hb dX8_wetMembers_0 (by decide) ?_
  refine lv_istore_n (lv' := [(1, .int 0), (0, .ref am)]) hx hb dX8_wetMembers_1 rfl hl (by decide) rfl (fun ls hl => ?_)
  refine lv_iconst (v := 0) hx hb dX8_wetMembers_2 (by decide) ?_
  refine lv_istore_n (lv' := [(2, .int 0), (1, .int 0), (0, .ref am)]) hx hb dX8_wetMembers_3 rfl hl (by decide) rfl (fun ls hl => ?_)
  have L_1 : ∀ (d k : Nat), k + d = N → ∀ ls : Array Slot, lv_has ls 3 [(0, .ref am), (1, .int (cntW v me k)), (2, .int (nI k))] → W p l e ({ frames := 2, cells := 0, slots := 0, locals := 43 } : Room) s m ([.ref am] : List Value).toArray below meth c s.heap [] 0 0 (roZ below ([.ref am] : List Value).toArray s (some (.int (cntW v me N)))) (F0 m 4 ls []) := by
    intro d
    induction d with
    | zero =>
      intro k hkk ls hl
      refine lv_iload_n hx hb dX8_wetMembers_4 rfl (lv_at hl 2 rfl) ?_
      refine lv_aload_n hx hb dX8_wetMembers_5 rfl (lv_at hl 0 rfl) ?_
      refine va_get (D := G) (ci := 12) (v := .ref aS) (C := RX8) (T := TX8) (N := 18) hx hb hts hi12 hown hK.1 hP 0 rfl rfl 0 (by decide) hf9 (fun _ h9 => h9) rfl dX8_wetMembers_6 ?_
      refine lv_iconst (v := 0) hx hb dX8_wetMembers_9 (by decide) ?_
      refine m_iald hx hb hK hP 1 (k := 0) rfl rfl (by omega) (Nat.le_of_ble_eq_true rfl) dX8_wetMembers_10 ?_
      refine lv_t0 (encR_0 rfl) ?_
      refine lv_icmp_ge (tgt := 46) hx hb dX8_wetMembers_11 (by decide) (fun c_2 => ?_) (fun c_2 => ?_)
      · have k_3 : N ≤ k := (m_leN (a := N) (b := k) rfl rfl (by omega) (by omega)).mp c_2
        have k_3' : ¬ (k < N) := by omega
        refine lv_iload_n hx hb dX8_wetMembers_46 rfl (lv_at hl 1 rfl) ?_
        exact ro_iret hx hb hr hlocks (by rw [show k = N by omega]) dX8_wetMembers_47
      · have k_4 : ¬ (N ≤ k) := fun z => c_2 ((m_leN (a := N) (b := k) rfl rfl (by omega) (by omega)).mpr z)
        have k_4' : k < N := by omega
        exfalso; omega
    | succ d ih =>
      intro k hkk ls hl
      refine lv_iload_n hx hb dX8_wetMembers_4 rfl (lv_at hl 2 rfl) ?_
      refine lv_aload_n hx hb dX8_wetMembers_5 rfl (lv_at hl 0 rfl) ?_
      refine va_get (D := G) (ci := 12) (v := .ref aS) (C := RX8) (T := TX8) (N := 18) hx hb hts hi12 hown hK.1 hP 0 rfl rfl 0 (by decide) hf9 (fun _ h9 => h9) rfl dX8_wetMembers_6 ?_
      refine lv_iconst (v := 0) hx hb dX8_wetMembers_9 (by decide) ?_
      refine m_iald hx hb hK hP 1 (k := 0) rfl rfl (by omega) (Nat.le_of_ble_eq_true rfl) dX8_wetMembers_10 ?_
      refine lv_t0 (encR_0 rfl) ?_
      refine lv_icmp_ge (tgt := 46) hx hb dX8_wetMembers_11 (by decide) (fun c_5 => ?_) (fun c_5 => ?_)
      · have k_6 : N ≤ k := (m_leN (a := N) (b := k) rfl rfl (by omega) (by omega)).mp c_5
        have k_6' : ¬ (k < N) := by omega
        exfalso; omega
      · have k_7 : ¬ (N ≤ k) := fun z => c_5 ((m_leN (a := N) (b := k) rfl rfl (by omega) (by omega)).mpr z)
        have k_7' : k < N := by omega
        refine lv_iload_n hx hb dX8_wetMembers_14 rfl (lv_at hl 1 rfl) ?_
        refine lv_aload_n hx hb dX8_wetMembers_15 rfl (lv_at hl 0 rfl) ?_
        refine lv_iload_n hx hb dX8_wetMembers_16 rfl (lv_at hl 2 rfl) ?_
        refine lv_iconst (v := 3) hx hb dX8_wetMembers_17 (by decide) ?_
        refine c_roVi S9 (c_X8_of_m l G cy am aS aBf aAs aSv aPa aOu aTx aCo K OM LN PO CM iS th iw ea fa N v h pl me M db dl du dq dw E ek eb el t1 t2 t3 t4 t5 t6 k (by omega)) (cwV 2 hts gX8_wetMembers_X8_of rfl rfl rfl (by decide +kernel) ⟨Nat.le_of_ble_eq_true rfl, Nat.le_of_ble_eq_true rfl⟩) PB.blind (va_recv hK.1 hP (ci := 12) (q0 := 0) rfl rfl) (PB.at hK (m_Ppart hP [0, 1] rfl)) rfl hl.1 rfl (Nat.le_of_ble_eq_true rfl) ⟨Nat.zero_le _, Nat.zero_le _⟩ dX8_wetMembers_18 ?_
        refine lv_iconst (v := 1) hx hb dX8_wetMembers_21 (by decide) ?_
        refine lv_icmp_ne (tgt := 37) hx hb dX8_wetMembers_22 (by decide) (fun c_8 => ?_) (fun c_8 => ?_)
        · have z_9 : (me k) = 0 := (hm k (by omega)).resolve_right c_8
          refine lv_iconst (v := 0) hx hb dX8_wetMembers_37 (by decide) ?_
          refine lv_iadd hx hb dX8_wetMembers_38 ?_
          refine lv_istore_n (lv' := [(1, .int ((cntW v me k) + 0)), (0, .ref am), (2, .int (nI k))]) hx hb dX8_wetMembers_39 rfl hl (by decide) rfl (fun ls hl => ?_)
          refine lv_iinc (v := nI (k + 1)) (lv' := [(2, .int (nI (k + 1))), (1, .int ((cntW v me k) + 0)), (0, .ref am)]) hx hb dX8_wetMembers_40 hl (k := 2) rfl (m_inc _) (by decide) rfl (fun ls hl => ?_)
          refine lv_goto (tgt := 4) hx hb dX8_wetMembers_43 (by decide) ?_
          have e_10 : cntW v me (k + 1) = (cntW v me k) + 0 := (by simp [cntW, c_5, z_9])
          exact ih (k + 1) (by omega) ls (by rw [e_10]; exact lv_sub hl [2, 1, 0] rfl)
        · have z_11 : ¬ (me k) = 0 := m_fl1 c_8
          refine lv_aload_n hx hb dX8_wetMembers_25 rfl (lv_at hl 0 rfl) ?_
          refine lv_iload_n hx hb dX8_wetMembers_26 rfl (lv_at hl 2 rfl) ?_
          refine c_roVi S9 (c_X8_isWet l G cy am aS aBf aAs aSv aPa aOu aTx aCo K OM LN PO CM iS th iw ea fa N v h pl me M db dl du dq dw E ek eb el t1 t2 t3 t4 t5 t6 k (by omega)) (cwV 1 hts gX8_wetMembers_X8_isWet rfl rfl rfl (by decide +kernel) ⟨Nat.le_of_ble_eq_true rfl, Nat.le_of_ble_eq_true rfl⟩) PB.blind (va_recv hK.1 hP (ci := 12) (q0 := 0) rfl rfl) (PB.at hK (m_Ppart hP [0, 1] rfl)) rfl hl.1 rfl (Nat.le_of_ble_eq_true rfl) ⟨Nat.zero_le _, Nat.zero_le _⟩ dX8_wetMembers_27 ?_
          refine lv_if_eq (tgt := 37) hx hb dX8_wetMembers_30 (by decide) (fun c_12 => ?_) (fun c_12 => ?_)
          · have b_13 : ¬ (wet v k = true) := m_ite0.mp c_12
            refine lv_iconst (v := 0) hx hb dX8_wetMembers_37 (by decide) ?_
            refine lv_iadd hx hb dX8_wetMembers_38 ?_
            refine lv_istore_n (lv' := [(1, .int ((cntW v me k) + 0)), (0, .ref am), (2, .int (nI k))]) hx hb dX8_wetMembers_39 rfl hl (by decide) rfl (fun ls hl => ?_)
            refine lv_iinc (v := nI (k + 1)) (lv' := [(2, .int (nI (k + 1))), (1, .int ((cntW v me k) + 0)), (0, .ref am)]) hx hb dX8_wetMembers_40 hl (k := 2) rfl (m_inc _) (by decide) rfl (fun ls hl => ?_)
            refine lv_goto (tgt := 4) hx hb dX8_wetMembers_43 (by decide) ?_
            have e_14 : cntW v me (k + 1) = (cntW v me k) + 0 := (by simp [cntW, c_5, z_11, b_13])
            exact ih (k + 1) (by omega) ls (by rw [e_14]; exact lv_sub hl [2, 1, 0] rfl)
          · have b_15 : wet v k = true := m_ite1.mp c_12
            refine lv_iconst (v := 1) hx hb dX8_wetMembers_33 (by decide) ?_
            refine lv_goto (tgt := 38) hx hb dX8_wetMembers_34 (by decide) ?_
            refine lv_iadd hx hb dX8_wetMembers_38 ?_
            refine lv_istore_n (lv' := [(1, .int ((cntW v me k) + 1)), (0, .ref am), (2, .int (nI k))]) hx hb dX8_wetMembers_39 rfl hl (by decide) rfl (fun ls hl => ?_)
            refine lv_iinc (v := nI (k + 1)) (lv' := [(2, .int (nI (k + 1))), (1, .int ((cntW v me k) + 1)), (0, .ref am)]) hx hb dX8_wetMembers_40 hl (k := 2) rfl (m_inc _) (by decide) rfl (fun ls hl => ?_)
            refine lv_goto (tgt := 4) hx hb dX8_wetMembers_43 (by decide) ?_
            have e_16 : cntW v me (k + 1) = (cntW v me k) + 1 := (by simp [cntW, c_5, z_11, b_15])
            exact ih (k + 1) (by omega) ls (by rw [e_16]; exact lv_sub hl [2, 1, 0] rfl)
  exact L_1 N 0 (by omega) ls (lv_sub hl [2, 1, 0] rfl)

set_option maxRecDepth 100000 in
set_option maxHeartbeats 1000000 in
theorem c_X8_extreme_hotO (l : Launch) (G : va_G) (cy : Nat → ClassId) (am aS aBf aAs aSv aPa aOu aTx aCo K OM LN PO CM : Nat) (iS th iw ea fa : Int32) (N : Nat) (v h pl me : Nat → Int32) (M : Nat) (db dl du dq dw : Nat → Int32) (E : Nat) (ek eb el : Nat → Int32) (t1 t2 t3 t4 t5 t6 : Int32) (hN : N ≤ 5) (hm : ∀ j, j < 5 → me j = 0 ∨ me j = 1) (hbd : Bd v h) : RO l yX8_extreme wsX8_extreme { frames := 2, cells := 0, slots := 0, locals := 44 } (PB G cy [(am, .inr (12, [.ref aS, .ref aBf, .ref aAs, .ref aSv, .int iS, .ref aPa, .int (nI K), .int th, .ref aOu, .int (nI OM), .ref aTx, .int (nI LN), .int (nI PO), .int iw, .int ea, .int fa, .ref aCo, .int (nI CM)])), (aS, .inl (cy 2, 89, .inl (encT N v h pl me M db dl du dq dw E ek eb el t1 t2 t3 t4 t5 t6)))]) [.ref am, .int 1] (some (.int (oi (hotO v h me N)))) := by
  refine RO.ofW (cc := cX8_extreme) (maxL := 5) (ret := (some .int)) (by decide) rfl (Nat.le_of_ble_eq_true rfl) ?_
  intro p e s m below meth c S9 hr hlocks hPB ls hl
  obtain ⟨hx, hb, hml, hown, hts⟩ := id S9
  obtain ⟨hP, hK⟩ := hPB
  have hl : lv_has ls 5 [(0, .ref am), (1, .int 1)] := hl
  have hi12 : ∀ w ∈ wsX80, w ∈ wsX8_extreme := by decide +kernel
  have hf9 := hts (.fieldLink RX8 9 "BathLeagueModel" "s" "[I") (by decide +kernel)
  refine lv_iconst (v := (-1)) hx hb dX8_extreme_0 (by decide) ?_
  refine lv_istore_n (lv' := [(2, .int (-1)), (0, .ref am), (1, .int 1)]) hx hb dX8_extreme_1 rfl hl (by decide) rfl (fun ls hl => ?_)
  refine lv_iconst (v := 0) hx hb dX8_extreme_2 (by decide) ?_
  refine lv_istore_n (lv' := [(3, .int 0), (2, .int (-1)), (0, .ref am), (1, .int 1)]) hx hb dX8_extreme_3 rfl hl (by decide) rfl (fun ls hl => ?_)
  have L_1 : ∀ (d k : Nat), k + d = N → ∀ ls : Array Slot, lv_has ls 5 [(0, .ref am), (1, .int 1), (2, .int (oi (hotO v h me k))), (3, .int (nI k))] → W p l e ({ frames := 2, cells := 0, slots := 0, locals := 44 } : Room) s m ([.ref am, .int 1] : List Value).toArray below meth c s.heap [] 0 0 (roZ below ([.ref am, .int 1] : List Value).toArray s (some (.int (oi (hotO v h me N))))) (F0 m 4 ls []) := by
    intro d
    induction d with
    | zero =>
      intro k hkk ls hl
      refine lv_iload_n hx hb dX8_extreme_4 rfl (lv_at hl 3 rfl) ?_
      refine lv_aload_n hx hb dX8_extreme_5 rfl (lv_at hl 0 rfl) ?_
      refine va_get (D := G) (ci := 12) (v := .ref aS) (C := RX8) (T := TX8) (N := 18) hx hb hts hi12 hown hK.1 hP 0 rfl rfl 0 (by decide) hf9 (fun _ h9 => h9) rfl dX8_extreme_6 ?_
      refine lv_iconst (v := 0) hx hb dX8_extreme_9 (by decide) ?_
      refine m_iald hx hb hK hP 1 (k := 0) rfl rfl (by omega) (Nat.le_of_ble_eq_true rfl) dX8_extreme_10 ?_
      refine lv_t0 (encR_0 rfl) ?_
      refine lv_icmp_ge (tgt := 71) hx hb dX8_extreme_11 (by decide) (fun c_2 => ?_) (fun c_2 => ?_)
      · have k_3 : N ≤ k := (m_leN (a := N) (b := k) rfl rfl (by omega) (by omega)).mp c_2
        have k_3' : ¬ (k < N) := by omega
        refine lv_iload_n hx hb dX8_extreme_71 rfl (lv_at hl 2 rfl) ?_
        exact ro_iret hx hb hr hlocks (by rw [show k = N by omega]) dX8_extreme_72
      · have k_4 : ¬ (N ≤ k) := fun z => c_2 ((m_leN (a := N) (b := k) rfl rfl (by omega) (by omega)).mpr z)
        have k_4' : k < N := by omega
        exfalso; omega
    | succ d ih =>
      intro k hkk ls hl
      rcases hO : hotO v h me k with _ | j
      · rw [hO] at hl
        have hl : lv_has ls 5 [(0, .ref am), (1, .int 1), (2, .int (-1)), (3, .int (nI k))] := hl
        refine lv_iload_n hx hb dX8_extreme_4 rfl (lv_at hl 3 rfl) ?_
        refine lv_aload_n hx hb dX8_extreme_5 rfl (lv_at hl 0 rfl) ?_
        refine va_get (D := G) (ci := 12) (v := .ref aS) (C := RX8) (T := TX8) (N := 18) hx hb hts hi12 hown hK.1 hP 0 rfl rfl 0 (by decide) hf9 (fun _ h9 => h9) rfl dX8_extreme_6 ?_
        refine lv_iconst (v := 0) hx hb dX8_extreme_9 (by decide) ?_
        refine m_iald hx hb hK hP 1 (k := 0) rfl rfl (by omega) (Nat.le_of_ble_eq_true rfl) dX8_extreme_10 ?_
        refine lv_t0 (encR_0 rfl) ?_
        refine lv_icmp_ge (tgt := 71) hx hb dX8_extreme_11 (by decide) (fun c_5 => ?_) (fun c_5 => ?_)
        · have k_6 : N ≤ k := (m_leN (a := N) (b := k) rfl rfl (by omega) (by omega)).mp c_5
          have k_6' : ¬ (k < N) := by omega
          exfalso; omega
        · have k_7 : ¬ (N ≤ k) := fun z => c_5 ((m_leN (a := N) (b := k) rfl rfl (by omega) (by omega)).mpr z)
          have k_7' : k < N := by omega
          refine lv_aload_n hx hb dX8_extreme_14 rfl (lv_at hl 0 rfl) ?_
          refine lv_iload_n hx hb dX8_extreme_15 rfl (lv_at hl 3 rfl) ?_
          refine lv_iconst (v := 3) hx hb dX8_extreme_16 (by decide) ?_
          refine c_roVi S9 (c_X8_of_m l G cy am aS aBf aAs aSv aPa aOu aTx aCo K OM LN PO CM iS th iw ea fa N v h pl me M db dl du dq dw E ek eb el t1 t2 t3 t4 t5 t6 k (by omega)) (cwV 2 hts gX8_extreme_X8_of rfl rfl rfl (by decide +kernel) ⟨Nat.le_of_ble_eq_true rfl, Nat.le_of_ble_eq_true rfl⟩) PB.blind (va_recv hK.1 hP (ci := 12) (q0 := 0) rfl rfl) (PB.at hK (m_Ppart hP [0, 1] rfl)) rfl hl.1 rfl (Nat.le_of_ble_eq_true rfl) ⟨Nat.zero_le _, Nat.zero_le _⟩ dX8_extreme_17 ?_
          refine lv_iconst (v := 1) hx hb dX8_extreme_20 (by decide) ?_
          refine lv_icmp_ne (tgt := 36) hx hb dX8_extreme_21 (by decide) (fun c_8 => ?_) (fun c_8 => ?_)
          · have z_9 : (me k) = 0 := (hm k (by omega)).resolve_right c_8
            refine lv_iconst (v := 0) hx hb dX8_extreme_36 (by decide) ?_
            refine lv_istore (lv' := [(4, .int 0), (0, .ref am), (1, .int 1), (2, .int (-1)), (3, .int (nI k))]) hx hb dX8_extreme_37 hl (by decide) rfl (fun ls hl => ?_)
            refine lv_iload hx hb dX8_extreme_39 (lv_at hl 0 rfl) ?_
            refine lv_if_eq (tgt := 63) hx hb dX8_extreme_41 (by decide) (fun c_10 => ?_) (fun c_10 => ?_)
            · refine lv_iload_n hx hb dX8_extreme_63 rfl (lv_at hl 3 rfl) ?_
              refine lv_istore_n (lv' := [(2, .int (-1)), (4, .int 0), (0, .ref am), (1, .int 1), (3, .int (nI k))]) hx hb dX8_extreme_64 rfl hl (by decide) rfl (fun ls hl => ?_)
              refine lv_iinc (v := nI (k + 1)) (lv' := [(3, .int (nI (k + 1))), (2, .int (-1)), (4, .int 0), (0, .ref am), (1, .int 1)]) hx hb dX8_extreme_65 hl (k := 4) rfl (m_inc _) (by decide) rfl (fun ls hl => ?_)
              refine lv_goto (tgt := 4) hx hb dX8_extreme_68 (by decide) ?_
              have e_11 : oi (hotO v h me (k + 1)) = (-1) := (by simp [hotO, oi, hO, c_5, z_9])
              exact ih (k + 1) (by omega) ls (by rw [e_11]; exact lv_sub hl [3, 4, 1, 0] rfl)
            · exact absurd c_10 (by decide)
          · have z_12 : ¬ (me k) = 0 := m_fl1 c_8
            refine lv_aload_n hx hb dX8_extreme_24 rfl (lv_at hl 0 rfl) ?_
            refine lv_iload_n hx hb dX8_extreme_25 rfl (lv_at hl 3 rfl) ?_
            refine c_roVi S9 (c_X8_isWet l G cy am aS aBf aAs aSv aPa aOu aTx aCo K OM LN PO CM iS th iw ea fa N v h pl me M db dl du dq dw E ek eb el t1 t2 t3 t4 t5 t6 k (by omega)) (cwV 1 hts gX8_extreme_X8_isWet rfl rfl rfl (by decide +kernel) ⟨Nat.le_of_ble_eq_true rfl, Nat.le_of_ble_eq_true rfl⟩) PB.blind (va_recv hK.1 hP (ci := 12) (q0 := 0) rfl rfl) (PB.at hK (m_Ppart hP [0, 1] rfl)) rfl hl.1 rfl (Nat.le_of_ble_eq_true rfl) ⟨Nat.zero_le _, Nat.zero_le _⟩ dX8_extreme_26 ?_
            refine lv_if_eq (tgt := 36) hx hb dX8_extreme_29 (by decide) (fun c_13 => ?_) (fun c_13 => ?_)
            · have b_14 : ¬ (wet v k = true) := m_ite0.mp c_13
              refine lv_iconst (v := 0) hx hb dX8_extreme_36 (by decide) ?_
              refine lv_istore (lv' := [(4, .int 0), (0, .ref am), (1, .int 1), (2, .int (-1)), (3, .int (nI k))]) hx hb dX8_extreme_37 hl (by decide) rfl (fun ls hl => ?_)
              refine lv_iload hx hb dX8_extreme_39 (lv_at hl 0 rfl) ?_
              refine lv_if_eq (tgt := 63) hx hb dX8_extreme_41 (by decide) (fun c_15 => ?_) (fun c_15 => ?_)
              · refine lv_iload_n hx hb dX8_extreme_63 rfl (lv_at hl 3 rfl) ?_
                refine lv_istore_n (lv' := [(2, .int (-1)), (4, .int 0), (0, .ref am), (1, .int 1), (3, .int (nI k))]) hx hb dX8_extreme_64 rfl hl (by decide) rfl (fun ls hl => ?_)
                refine lv_iinc (v := nI (k + 1)) (lv' := [(3, .int (nI (k + 1))), (2, .int (-1)), (4, .int 0), (0, .ref am), (1, .int 1)]) hx hb dX8_extreme_65 hl (k := 4) rfl (m_inc _) (by decide) rfl (fun ls hl => ?_)
                refine lv_goto (tgt := 4) hx hb dX8_extreme_68 (by decide) ?_
                have e_16 : oi (hotO v h me (k + 1)) = (-1) := (by simp [hotO, oi, hO, c_5, z_12, b_14])
                exact ih (k + 1) (by omega) ls (by rw [e_16]; exact lv_sub hl [3, 4, 1, 0] rfl)
              · exact absurd c_15 (by decide)
            · have b_17 : wet v k = true := m_ite1.mp c_13
              refine lv_iconst (v := 1) hx hb dX8_extreme_32 (by decide) ?_
              refine lv_goto (tgt := 37) hx hb dX8_extreme_33 (by decide) ?_
              refine lv_istore (lv' := [(4, .int 1), (0, .ref am), (1, .int 1), (2, .int (-1)), (3, .int (nI k))]) hx hb dX8_extreme_37 hl (by decide) rfl (fun ls hl => ?_)
              refine lv_iload hx hb dX8_extreme_39 (lv_at hl 0 rfl) ?_
              refine lv_if_eq (tgt := 63) hx hb dX8_extreme_41 (by decide) (fun c_18 => ?_) (fun c_18 => ?_)
              · exact absurd c_18 (by decide)
              · refine lv_iload_n hx hb dX8_extreme_44 rfl (lv_at hl 3 rfl) ?_
                refine lv_if_lt (tgt := 59) hx hb dX8_extreme_45 (by decide) (fun c_19 => ?_) (fun c_19 => ?_)
                · refine lv_iload_n hx hb dX8_extreme_59 rfl (lv_at hl 4 rfl) ?_
                  refine lv_goto (tgt := 64) hx hb dX8_extreme_60 (by decide) ?_
                  refine lv_istore_n (lv' := [(2, .int (nI k)), (4, .int 1), (0, .ref am), (1, .int 1), (3, .int (nI k))]) hx hb dX8_extreme_64 rfl hl (by decide) rfl (fun ls hl => ?_)
                  refine lv_iinc (v := nI (k + 1)) (lv' := [(3, .int (nI (k + 1))), (2, .int (nI k)), (4, .int 1), (0, .ref am), (1, .int 1)]) hx hb dX8_extreme_65 hl (k := 4) rfl (m_inc _) (by decide) rfl (fun ls hl => ?_)
                  refine lv_goto (tgt := 4) hx hb dX8_extreme_68 (by decide) ?_
                  have e_20 : oi (hotO v h me (k + 1)) = nI k := (by simp [hotO, oi, hO, c_5, z_12, b_17])
                  exact ih (k + 1) (by omega) ls (by rw [e_20]; exact lv_sub hl [3, 4, 1, 0] rfl)
                · exact absurd c_19 (by decide)
      · rw [hO] at hl
        have hl : lv_has ls 5 [(0, .ref am), (1, .int 1), (2, .int (nI j)), (3, .int (nI k))] := hl
        have hj : j < k := hotO_lt hO
        refine lv_iload_n hx hb dX8_extreme_4 rfl (lv_at hl 3 rfl) ?_
        refine lv_aload_n hx hb dX8_extreme_5 rfl (lv_at hl 0 rfl) ?_
        refine va_get (D := G) (ci := 12) (v := .ref aS) (C := RX8) (T := TX8) (N := 18) hx hb hts hi12 hown hK.1 hP 0 rfl rfl 0 (by decide) hf9 (fun _ h9 => h9) rfl dX8_extreme_6 ?_
        refine lv_iconst (v := 0) hx hb dX8_extreme_9 (by decide) ?_
        refine m_iald hx hb hK hP 1 (k := 0) rfl rfl (by omega) (Nat.le_of_ble_eq_true rfl) dX8_extreme_10 ?_
        refine lv_t0 (encR_0 rfl) ?_
        refine lv_icmp_ge (tgt := 71) hx hb dX8_extreme_11 (by decide) (fun c_21 => ?_) (fun c_21 => ?_)
        · have k_22 : N ≤ k := (m_leN (a := N) (b := k) rfl rfl (by omega) (by omega)).mp c_21
          have k_22' : ¬ (k < N) := by omega
          exfalso; omega
        · have k_23 : ¬ (N ≤ k) := fun z => c_21 ((m_leN (a := N) (b := k) rfl rfl (by omega) (by omega)).mpr z)
          have k_23' : k < N := by omega
          refine lv_aload_n hx hb dX8_extreme_14 rfl (lv_at hl 0 rfl) ?_
          refine lv_iload_n hx hb dX8_extreme_15 rfl (lv_at hl 3 rfl) ?_
          refine lv_iconst (v := 3) hx hb dX8_extreme_16 (by decide) ?_
          refine c_roVi S9 (c_X8_of_m l G cy am aS aBf aAs aSv aPa aOu aTx aCo K OM LN PO CM iS th iw ea fa N v h pl me M db dl du dq dw E ek eb el t1 t2 t3 t4 t5 t6 k (by omega)) (cwV 2 hts gX8_extreme_X8_of rfl rfl rfl (by decide +kernel) ⟨Nat.le_of_ble_eq_true rfl, Nat.le_of_ble_eq_true rfl⟩) PB.blind (va_recv hK.1 hP (ci := 12) (q0 := 0) rfl rfl) (PB.at hK (m_Ppart hP [0, 1] rfl)) rfl hl.1 rfl (Nat.le_of_ble_eq_true rfl) ⟨Nat.zero_le _, Nat.zero_le _⟩ dX8_extreme_17 ?_
          refine lv_iconst (v := 1) hx hb dX8_extreme_20 (by decide) ?_
          refine lv_icmp_ne (tgt := 36) hx hb dX8_extreme_21 (by decide) (fun c_24 => ?_) (fun c_24 => ?_)
          · have z_25 : (me k) = 0 := (hm k (by omega)).resolve_right c_24
            refine lv_iconst (v := 0) hx hb dX8_extreme_36 (by decide) ?_
            refine lv_istore (lv' := [(4, .int 0), (0, .ref am), (1, .int 1), (2, .int (nI j)), (3, .int (nI k))]) hx hb dX8_extreme_37 hl (by decide) rfl (fun ls hl => ?_)
            refine lv_iload hx hb dX8_extreme_39 (lv_at hl 0 rfl) ?_
            refine lv_if_eq (tgt := 63) hx hb dX8_extreme_41 (by decide) (fun c_26 => ?_) (fun c_26 => ?_)
            · refine lv_iload_n hx hb dX8_extreme_63 rfl (lv_at hl 3 rfl) ?_
              refine lv_istore_n (lv' := [(2, .int (nI j)), (4, .int 0), (0, .ref am), (1, .int 1), (3, .int (nI k))]) hx hb dX8_extreme_64 rfl hl (by decide) rfl (fun ls hl => ?_)
              refine lv_iinc (v := nI (k + 1)) (lv' := [(3, .int (nI (k + 1))), (2, .int (nI j)), (4, .int 0), (0, .ref am), (1, .int 1)]) hx hb dX8_extreme_65 hl (k := 4) rfl (m_inc _) (by decide) rfl (fun ls hl => ?_)
              refine lv_goto (tgt := 4) hx hb dX8_extreme_68 (by decide) ?_
              have e_27 : oi (hotO v h me (k + 1)) = nI j := (by simp [hotO, oi, hO, c_21, z_25])
              exact ih (k + 1) (by omega) ls (by rw [e_27]; exact lv_sub hl [3, 4, 1, 0] rfl)
            · exact absurd c_26 (by decide)
          · have z_28 : ¬ (me k) = 0 := m_fl1 c_24
            refine lv_aload_n hx hb dX8_extreme_24 rfl (lv_at hl 0 rfl) ?_
            refine lv_iload_n hx hb dX8_extreme_25 rfl (lv_at hl 3 rfl) ?_
            refine c_roVi S9 (c_X8_isWet l G cy am aS aBf aAs aSv aPa aOu aTx aCo K OM LN PO CM iS th iw ea fa N v h pl me M db dl du dq dw E ek eb el t1 t2 t3 t4 t5 t6 k (by omega)) (cwV 1 hts gX8_extreme_X8_isWet rfl rfl rfl (by decide +kernel) ⟨Nat.le_of_ble_eq_true rfl, Nat.le_of_ble_eq_true rfl⟩) PB.blind (va_recv hK.1 hP (ci := 12) (q0 := 0) rfl rfl) (PB.at hK (m_Ppart hP [0, 1] rfl)) rfl hl.1 rfl (Nat.le_of_ble_eq_true rfl) ⟨Nat.zero_le _, Nat.zero_le _⟩ dX8_extreme_26 ?_
            refine lv_if_eq (tgt := 36) hx hb dX8_extreme_29 (by decide) (fun c_29 => ?_) (fun c_29 => ?_)
            · have b_30 : ¬ (wet v k = true) := m_ite0.mp c_29
              refine lv_iconst (v := 0) hx hb dX8_extreme_36 (by decide) ?_
              refine lv_istore (lv' := [(4, .int 0), (0, .ref am), (1, .int 1), (2, .int (nI j)), (3, .int (nI k))]) hx hb dX8_extreme_37 hl (by decide) rfl (fun ls hl => ?_)
              refine lv_iload hx hb dX8_extreme_39 (lv_at hl 0 rfl) ?_
              refine lv_if_eq (tgt := 63) hx hb dX8_extreme_41 (by decide) (fun c_31 => ?_) (fun c_31 => ?_)
              · refine lv_iload_n hx hb dX8_extreme_63 rfl (lv_at hl 3 rfl) ?_
                refine lv_istore_n (lv' := [(2, .int (nI j)), (4, .int 0), (0, .ref am), (1, .int 1), (3, .int (nI k))]) hx hb dX8_extreme_64 rfl hl (by decide) rfl (fun ls hl => ?_)
                refine lv_iinc (v := nI (k + 1)) (lv' := [(3, .int (nI (k + 1))), (2, .int (nI j)), (4, .int 0), (0, .ref am), (1, .int 1)]) hx hb dX8_extreme_65 hl (k := 4) rfl (m_inc _) (by decide) rfl (fun ls hl => ?_)
                refine lv_goto (tgt := 4) hx hb dX8_extreme_68 (by decide) ?_
                have e_32 : oi (hotO v h me (k + 1)) = nI j := (by simp [hotO, oi, hO, c_21, z_28, b_30])
                exact ih (k + 1) (by omega) ls (by rw [e_32]; exact lv_sub hl [3, 4, 1, 0] rfl)
              · exact absurd c_31 (by decide)
            · have b_33 : wet v k = true := m_ite1.mp c_29
              refine lv_iconst (v := 1) hx hb dX8_extreme_32 (by decide) ?_
              refine lv_goto (tgt := 37) hx hb dX8_extreme_33 (by decide) ?_
              refine lv_istore (lv' := [(4, .int 1), (0, .ref am), (1, .int 1), (2, .int (nI j)), (3, .int (nI k))]) hx hb dX8_extreme_37 hl (by decide) rfl (fun ls hl => ?_)
              refine lv_iload hx hb dX8_extreme_39 (lv_at hl 0 rfl) ?_
              refine lv_if_eq (tgt := 63) hx hb dX8_extreme_41 (by decide) (fun c_34 => ?_) (fun c_34 => ?_)
              · exact absurd c_34 (by decide)
              · refine lv_iload_n hx hb dX8_extreme_44 rfl (lv_at hl 3 rfl) ?_
                refine lv_if_lt (tgt := 59) hx hb dX8_extreme_45 (by decide) (fun c_35 => ?_) (fun c_35 => ?_)
                · have k_36 : j < 0 := (m_ltN (a := j) (b := 0) rfl rfl (by omega) (by omega)).mp c_35
                  have k_36' : ¬ (0 ≤ j) := by omega
                  exfalso; omega
                · have k_37 : ¬ (j < 0) := fun z => c_35 ((m_ltN (a := j) (b := 0) rfl rfl (by omega) (by omega)).mpr z)
                  have k_37' : 0 ≤ j := by omega
                  refine lv_iload_n hx hb dX8_extreme_48 rfl (lv_at hl 2 rfl) ?_
                  refine lv_aload_n hx hb dX8_extreme_49 rfl (lv_at hl 1 rfl) ?_
                  refine lv_iload_n hx hb dX8_extreme_50 rfl (lv_at hl 4 rfl) ?_
                  refine lv_iload_n hx hb dX8_extreme_51 rfl (lv_at hl 3 rfl) ?_
                  refine c_roVi S9 (c_X8_warmer l G cy am aS aBf aAs aSv aPa aOu aTx aCo K OM LN PO CM iS th iw ea fa N v h pl me M db dl du dq dw E ek eb el t1 t2 t3 t4 t5 t6 k j (by omega) (by omega)) (cwV 2 hts gX8_extreme_X8_warmer rfl rfl rfl (by decide +kernel) ⟨Nat.le_of_ble_eq_true rfl, Nat.le_of_ble_eq_true rfl⟩) PB.blind (va_recv hK.1 hP (ci := 12) (q0 := 0) rfl rfl) (PB.at hK (m_Ppart hP [0, 1] rfl)) rfl hl.1 rfl (Nat.le_of_ble_eq_true rfl) ⟨Nat.zero_le _, Nat.zero_le _⟩ dX8_extreme_52 ?_
                  refine lv_imul hx hb dX8_extreme_55 ?_
                  refine lv_if_le (tgt := 63) hx hb dX8_extreme_56 (by decide) (fun c_38 => ?_) (fun c_38 => ?_)
                  · have c_38' : ¬ 0 < (1 * (h k * v j - h j * v k)) := Int32.not_lt.mpr c_38
                    have w_39 : ¬ hotter v h k j = true := fun z => (warm1 hbd (by omega) (by omega)).mpr z c_38
                    refine lv_iload_n hx hb dX8_extreme_63 rfl (lv_at hl 3 rfl) ?_
                    refine lv_istore_n (lv' := [(2, .int (nI j)), (4, .int 1), (0, .ref am), (1, .int 1), (3, .int (nI k))]) hx hb dX8_extreme_64 rfl hl (by decide) rfl (fun ls hl => ?_)
                    refine lv_iinc (v := nI (k + 1)) (lv' := [(3, .int (nI (k + 1))), (2, .int (nI j)), (4, .int 1), (0, .ref am), (1, .int 1)]) hx hb dX8_extreme_65 hl (k := 4) rfl (m_inc _) (by decide) rfl (fun ls hl => ?_)
                    refine lv_goto (tgt := 4) hx hb dX8_extreme_68 (by decide) ?_
                    have e_40 : oi (hotO v h me (k + 1)) = nI j := (by simp [hotO, oi, hO, c_21, z_28, b_33, c_35, w_39])
                    exact ih (k + 1) (by omega) ls (by rw [e_40]; exact lv_sub hl [3, 4, 1, 0] rfl)
                  · have c_38' : 0 < (1 * (h k * v j - h j * v k)) := Int32.not_le.mp c_38
                    have w_41 : hotter v h k j = true := (warm1 hbd (by omega) (by omega)).mp c_38
                    refine lv_iload_n hx hb dX8_extreme_59 rfl (lv_at hl 4 rfl) ?_
                    refine lv_goto (tgt := 64) hx hb dX8_extreme_60 (by decide) ?_
                    refine lv_istore_n (lv' := [(2, .int (nI k)), (4, .int 1), (0, .ref am), (1, .int 1), (3, .int (nI k))]) hx hb dX8_extreme_64 rfl hl (by decide) rfl (fun ls hl => ?_)
                    refine lv_iinc (v := nI (k + 1)) (lv' := [(3, .int (nI (k + 1))), (2, .int (nI k)), (4, .int 1), (0, .ref am), (1, .int 1)]) hx hb dX8_extreme_65 hl (k := 4) rfl (m_inc _) (by decide) rfl (fun ls hl => ?_)
                    refine lv_goto (tgt := 4) hx hb dX8_extreme_68 (by decide) ?_
                    have e_42 : oi (hotO v h me (k + 1)) = nI k := (by simp [hotO, oi, hO, c_21, z_28, b_33, c_35, w_41])
                    exact ih (k + 1) (by omega) ls (by rw [e_42]; exact lv_sub hl [3, 4, 1, 0] rfl)
  exact L_1 N 0 (by omega) ls (lv_sub hl [2, 3, 1, 0] rfl)

set_option maxRecDepth 100000 in
set_option maxHeartbeats 1000000 in
theorem c_X8_extreme_colO (l : Launch) (G : va_G) (cy : Nat → ClassId) (am aS aBf aAs aSv aPa aOu aTx aCo K OM LN PO CM : Nat) (iS th iw ea fa : Int32) (N : Nat) (v h pl me : Nat → Int32) (M : Nat) (db dl du dq dw : Nat → Int32) (E : Nat) (ek eb el : Nat → Int32) (t1 t2 t3 t4 t5 t6 : Int32) (hN : N ≤ 5) (hm : ∀ j, j < 5 → me j = 0 ∨ me j = 1) (hbd : Bd v h) : RO l yX8_extreme wsX8_extreme { frames := 2, cells := 0, slots := 0, locals := 44 } (PB G cy [(am, .inr (12, [.ref aS, .ref aBf, .ref aAs, .ref aSv, .int iS, .ref aPa, .int (nI K), .int th, .ref aOu, .int (nI OM), .ref aTx, .int (nI LN), .int (nI PO), .int iw, .int ea, .int fa, .ref aCo, .int (nI CM)])), (aS, .inl (cy 2, 89, .inl (encT N v h pl me M db dl du dq dw E ek eb el t1 t2 t3 t4 t5 t6)))]) [.ref am, .int (-1)] (some (.int (oi (colO v h me N)))) := by
  refine RO.ofW (cc := cX8_extreme) (maxL := 5) (ret := (some .int)) (by decide) rfl (Nat.le_of_ble_eq_true rfl) ?_
  intro p e s m below meth c S9 hr hlocks hPB ls hl
  obtain ⟨hx, hb, hml, hown, hts⟩ := id S9
  obtain ⟨hP, hK⟩ := hPB
  have hl : lv_has ls 5 [(0, .ref am), (1, .int (-1))] := hl
  have hi12 : ∀ w ∈ wsX80, w ∈ wsX8_extreme := by decide +kernel
  have hf9 := hts (.fieldLink RX8 9 "BathLeagueModel" "s" "[I") (by decide +kernel)
  refine lv_iconst (v := (-1)) hx hb dX8_extreme_0 (by decide) ?_
  refine lv_istore_n (lv' := [(2, .int (-1)), (0, .ref am), (1, .int (-1))]) hx hb dX8_extreme_1 rfl hl (by decide) rfl (fun ls hl => ?_)
  refine lv_iconst (v := 0) hx hb dX8_extreme_2 (by decide) ?_
  refine lv_istore_n (lv' := [(3, .int 0), (2, .int (-1)), (0, .ref am), (1, .int (-1))]) hx hb dX8_extreme_3 rfl hl (by decide) rfl (fun ls hl => ?_)
  have L_1 : ∀ (d k : Nat), k + d = N → ∀ ls : Array Slot, lv_has ls 5 [(0, .ref am), (1, .int (-1)), (2, .int (oi (colO v h me k))), (3, .int (nI k))] → W p l e ({ frames := 2, cells := 0, slots := 0, locals := 44 } : Room) s m ([.ref am, .int (-1)] : List Value).toArray below meth c s.heap [] 0 0 (roZ below ([.ref am, .int (-1)] : List Value).toArray s (some (.int (oi (colO v h me N))))) (F0 m 4 ls []) := by
    intro d
    induction d with
    | zero =>
      intro k hkk ls hl
      refine lv_iload_n hx hb dX8_extreme_4 rfl (lv_at hl 3 rfl) ?_
      refine lv_aload_n hx hb dX8_extreme_5 rfl (lv_at hl 0 rfl) ?_
      refine va_get (D := G) (ci := 12) (v := .ref aS) (C := RX8) (T := TX8) (N := 18) hx hb hts hi12 hown hK.1 hP 0 rfl rfl 0 (by decide) hf9 (fun _ h9 => h9) rfl dX8_extreme_6 ?_
      refine lv_iconst (v := 0) hx hb dX8_extreme_9 (by decide) ?_
      refine m_iald hx hb hK hP 1 (k := 0) rfl rfl (by omega) (Nat.le_of_ble_eq_true rfl) dX8_extreme_10 ?_
      refine lv_t0 (encR_0 rfl) ?_
      refine lv_icmp_ge (tgt := 71) hx hb dX8_extreme_11 (by decide) (fun c_2 => ?_) (fun c_2 => ?_)
      · have k_3 : N ≤ k := (m_leN (a := N) (b := k) rfl rfl (by omega) (by omega)).mp c_2
        have k_3' : ¬ (k < N) := by omega
        refine lv_iload_n hx hb dX8_extreme_71 rfl (lv_at hl 2 rfl) ?_
        exact ro_iret hx hb hr hlocks (by rw [show k = N by omega]) dX8_extreme_72
      · have k_4 : ¬ (N ≤ k) := fun z => c_2 ((m_leN (a := N) (b := k) rfl rfl (by omega) (by omega)).mpr z)
        have k_4' : k < N := by omega
        exfalso; omega
    | succ d ih =>
      intro k hkk ls hl
      rcases hO : colO v h me k with _ | j
      · rw [hO] at hl
        have hl : lv_has ls 5 [(0, .ref am), (1, .int (-1)), (2, .int (-1)), (3, .int (nI k))] := hl
        refine lv_iload_n hx hb dX8_extreme_4 rfl (lv_at hl 3 rfl) ?_
        refine lv_aload_n hx hb dX8_extreme_5 rfl (lv_at hl 0 rfl) ?_
        refine va_get (D := G) (ci := 12) (v := .ref aS) (C := RX8) (T := TX8) (N := 18) hx hb hts hi12 hown hK.1 hP 0 rfl rfl 0 (by decide) hf9 (fun _ h9 => h9) rfl dX8_extreme_6 ?_
        refine lv_iconst (v := 0) hx hb dX8_extreme_9 (by decide) ?_
        refine m_iald hx hb hK hP 1 (k := 0) rfl rfl (by omega) (Nat.le_of_ble_eq_true rfl) dX8_extreme_10 ?_
        refine lv_t0 (encR_0 rfl) ?_
        refine lv_icmp_ge (tgt := 71) hx hb dX8_extreme_11 (by decide) (fun c_5 => ?_) (fun c_5 => ?_)
        · have k_6 : N ≤ k := (m_leN (a := N) (b := k) rfl rfl (by omega) (by omega)).mp c_5
          have k_6' : ¬ (k < N) := by omega
          exfalso; omega
        · have k_7 : ¬ (N ≤ k) := fun z => c_5 ((m_leN (a := N) (b := k) rfl rfl (by omega) (by omega)).mpr z)
          have k_7' : k < N := by omega
          refine lv_aload_n hx hb dX8_extreme_14 rfl (lv_at hl 0 rfl) ?_
          refine lv_iload_n hx hb dX8_extreme_15 rfl (lv_at hl 3 rfl) ?_
          refine lv_iconst (v := 3) hx hb dX8_extreme_16 (by decide) ?_
          refine c_roVi S9 (c_X8_of_m l G cy am aS aBf aAs aSv aPa aOu aTx aCo K OM LN PO CM iS th iw ea fa N v h pl me M db dl du dq dw E ek eb el t1 t2 t3 t4 t5 t6 k (by omega)) (cwV 2 hts gX8_extreme_X8_of rfl rfl rfl (by decide +kernel) ⟨Nat.le_of_ble_eq_true rfl, Nat.le_of_ble_eq_true rfl⟩) PB.blind (va_recv hK.1 hP (ci := 12) (q0 := 0) rfl rfl) (PB.at hK (m_Ppart hP [0, 1] rfl)) rfl hl.1 rfl (Nat.le_of_ble_eq_true rfl) ⟨Nat.zero_le _, Nat.zero_le _⟩ dX8_extreme_17 ?_
          refine lv_iconst (v := 1) hx hb dX8_extreme_20 (by decide) ?_
          refine lv_icmp_ne (tgt := 36) hx hb dX8_extreme_21 (by decide) (fun c_8 => ?_) (fun c_8 => ?_)
          · have z_9 : (me k) = 0 := (hm k (by omega)).resolve_right c_8
            refine lv_iconst (v := 0) hx hb dX8_extreme_36 (by decide) ?_
            refine lv_istore (lv' := [(4, .int 0), (0, .ref am), (1, .int (-1)), (2, .int (-1)), (3, .int (nI k))]) hx hb dX8_extreme_37 hl (by decide) rfl (fun ls hl => ?_)
            refine lv_iload hx hb dX8_extreme_39 (lv_at hl 0 rfl) ?_
            refine lv_if_eq (tgt := 63) hx hb dX8_extreme_41 (by decide) (fun c_10 => ?_) (fun c_10 => ?_)
            · refine lv_iload_n hx hb dX8_extreme_63 rfl (lv_at hl 3 rfl) ?_
              refine lv_istore_n (lv' := [(2, .int (-1)), (4, .int 0), (0, .ref am), (1, .int (-1)), (3, .int (nI k))]) hx hb dX8_extreme_64 rfl hl (by decide) rfl (fun ls hl => ?_)
              refine lv_iinc (v := nI (k + 1)) (lv' := [(3, .int (nI (k + 1))), (2, .int (-1)), (4, .int 0), (0, .ref am), (1, .int (-1))]) hx hb dX8_extreme_65 hl (k := 4) rfl (m_inc _) (by decide) rfl (fun ls hl => ?_)
              refine lv_goto (tgt := 4) hx hb dX8_extreme_68 (by decide) ?_
              have e_11 : oi (colO v h me (k + 1)) = (-1) := (by simp [colO, oi, hO, c_5, z_9])
              exact ih (k + 1) (by omega) ls (by rw [e_11]; exact lv_sub hl [3, 4, 1, 0] rfl)
            · exact absurd c_10 (by decide)
          · have z_12 : ¬ (me k) = 0 := m_fl1 c_8
            refine lv_aload_n hx hb dX8_extreme_24 rfl (lv_at hl 0 rfl) ?_
            refine lv_iload_n hx hb dX8_extreme_25 rfl (lv_at hl 3 rfl) ?_
            refine c_roVi S9 (c_X8_isWet l G cy am aS aBf aAs aSv aPa aOu aTx aCo K OM LN PO CM iS th iw ea fa N v h pl me M db dl du dq dw E ek eb el t1 t2 t3 t4 t5 t6 k (by omega)) (cwV 1 hts gX8_extreme_X8_isWet rfl rfl rfl (by decide +kernel) ⟨Nat.le_of_ble_eq_true rfl, Nat.le_of_ble_eq_true rfl⟩) PB.blind (va_recv hK.1 hP (ci := 12) (q0 := 0) rfl rfl) (PB.at hK (m_Ppart hP [0, 1] rfl)) rfl hl.1 rfl (Nat.le_of_ble_eq_true rfl) ⟨Nat.zero_le _, Nat.zero_le _⟩ dX8_extreme_26 ?_
            refine lv_if_eq (tgt := 36) hx hb dX8_extreme_29 (by decide) (fun c_13 => ?_) (fun c_13 => ?_)
            · have b_14 : ¬ (wet v k = true) := m_ite0.mp c_13
              refine lv_iconst (v := 0) hx hb dX8_extreme_36 (by decide) ?_
              refine lv_istore (lv' := [(4, .int 0), (0, .ref am), (1, .int (-1)), (2, .int (-1)), (3, .int (nI k))]) hx hb dX8_extreme_37 hl (by decide) rfl (fun ls hl => ?_)
              refine lv_iload hx hb dX8_extreme_39 (lv_at hl 0 rfl) ?_
              refine lv_if_eq (tgt := 63) hx hb dX8_extreme_41 (by decide) (fun c_15 => ?_) (fun c_15 => ?_)
              · refine lv_iload_n hx hb dX8_extreme_63 rfl (lv_at hl 3 rfl) ?_
                refine lv_istore_n (lv' := [(2, .int (-1)), (4, .int 0), (0, .ref am), (1, .int (-1)), (3, .int (nI k))]) hx hb dX8_extreme_64 rfl hl (by decide) rfl (fun ls hl => ?_)
                refine lv_iinc (v := nI (k + 1)) (lv' := [(3, .int (nI (k + 1))), (2, .int (-1)), (4, .int 0), (0, .ref am), (1, .int (-1))]) hx hb dX8_extreme_65 hl (k := 4) rfl (m_inc _) (by decide) rfl (fun ls hl => ?_)
                refine lv_goto (tgt := 4) hx hb dX8_extreme_68 (by decide) ?_
                have e_16 : oi (colO v h me (k + 1)) = (-1) := (by simp [colO, oi, hO, c_5, z_12, b_14])
                exact ih (k + 1) (by omega) ls (by rw [e_16]; exact lv_sub hl [3, 4, 1, 0] rfl)
              · exact absurd c_15 (by decide)
            · have b_17 : wet v k = true := m_ite1.mp c_13
              refine lv_iconst (v := 1) hx hb dX8_extreme_32 (by decide) ?_
              refine lv_goto (tgt := 37) hx hb dX8_extreme_33 (by decide) ?_
              refine lv_istore (lv' := [(4, .int 1), (0, .ref am), (1, .int (-1)), (2, .int (-1)), (3, .int (nI k))]) hx hb dX8_extreme_37 hl (by decide) rfl (fun ls hl => ?_)
              refine lv_iload hx hb dX8_extreme_39 (lv_at hl 0 rfl) ?_
              refine lv_if_eq (tgt := 63) hx hb dX8_extreme_41 (by decide) (fun c_18 => ?_) (fun c_18 => ?_)
              · exact absurd c_18 (by decide)
              · refine lv_iload_n hx hb dX8_extreme_44 rfl (lv_at hl 3 rfl) ?_
                refine lv_if_lt (tgt := 59) hx hb dX8_extreme_45 (by decide) (fun c_19 => ?_) (fun c_19 => ?_)
                · refine lv_iload_n hx hb dX8_extreme_59 rfl (lv_at hl 4 rfl) ?_
                  refine lv_goto (tgt := 64) hx hb dX8_extreme_60 (by decide) ?_
                  refine lv_istore_n (lv' := [(2, .int (nI k)), (4, .int 1), (0, .ref am), (1, .int (-1)), (3, .int (nI k))]) hx hb dX8_extreme_64 rfl hl (by decide) rfl (fun ls hl => ?_)
                  refine lv_iinc (v := nI (k + 1)) (lv' := [(3, .int (nI (k + 1))), (2, .int (nI k)), (4, .int 1), (0, .ref am), (1, .int (-1))]) hx hb dX8_extreme_65 hl (k := 4) rfl (m_inc _) (by decide) rfl (fun ls hl => ?_)
                  refine lv_goto (tgt := 4) hx hb dX8_extreme_68 (by decide) ?_
                  have e_20 : oi (colO v h me (k + 1)) = nI k := (by simp [colO, oi, hO, c_5, z_12, b_17])
                  exact ih (k + 1) (by omega) ls (by rw [e_20]; exact lv_sub hl [3, 4, 1, 0] rfl)
                · exact absurd c_19 (by decide)
      · rw [hO] at hl
        have hl : lv_has ls 5 [(0, .ref am), (1, .int (-1)), (2, .int (nI j)), (3, .int (nI k))] := hl
        have hj : j < k := colO_lt hO
        refine lv_iload_n hx hb dX8_extreme_4 rfl (lv_at hl 3 rfl) ?_
        refine lv_aload_n hx hb dX8_extreme_5 rfl (lv_at hl 0 rfl) ?_
        refine va_get (D := G) (ci := 12) (v := .ref aS) (C := RX8) (T := TX8) (N := 18) hx hb hts hi12 hown hK.1 hP 0 rfl rfl 0 (by decide) hf9 (fun _ h9 => h9) rfl dX8_extreme_6 ?_
        refine lv_iconst (v := 0) hx hb dX8_extreme_9 (by decide) ?_
        refine m_iald hx hb hK hP 1 (k := 0) rfl rfl (by omega) (Nat.le_of_ble_eq_true rfl) dX8_extreme_10 ?_
        refine lv_t0 (encR_0 rfl) ?_
        refine lv_icmp_ge (tgt := 71) hx hb dX8_extreme_11 (by decide) (fun c_21 => ?_) (fun c_21 => ?_)
        · have k_22 : N ≤ k := (m_leN (a := N) (b := k) rfl rfl (by omega) (by omega)).mp c_21
          have k_22' : ¬ (k < N) := by omega
          exfalso; omega
        · have k_23 : ¬ (N ≤ k) := fun z => c_21 ((m_leN (a := N) (b := k) rfl rfl (by omega) (by omega)).mpr z)
          have k_23' : k < N := by omega
          refine lv_aload_n hx hb dX8_extreme_14 rfl (lv_at hl 0 rfl) ?_
          refine lv_iload_n hx hb dX8_extreme_15 rfl (lv_at hl 3 rfl) ?_
          refine lv_iconst (v := 3) hx hb dX8_extreme_16 (by decide) ?_
          refine c_roVi S9 (c_X8_of_m l G cy am aS aBf aAs aSv aPa aOu aTx aCo K OM LN PO CM iS th iw ea fa N v h pl me M db dl du dq dw E ek eb el t1 t2 t3 t4 t5 t6 k (by omega)) (cwV 2 hts gX8_extreme_X8_of rfl rfl rfl (by decide +kernel) ⟨Nat.le_of_ble_eq_true rfl, Nat.le_of_ble_eq_true rfl⟩) PB.blind (va_recv hK.1 hP (ci := 12) (q0 := 0) rfl rfl) (PB.at hK (m_Ppart hP [0, 1] rfl)) rfl hl.1 rfl (Nat.le_of_ble_eq_true rfl) ⟨Nat.zero_le _, Nat.zero_le _⟩ dX8_extreme_17 ?_
          refine lv_iconst (v := 1) hx hb dX8_extreme_20 (by decide) ?_
          refine lv_icmp_ne (tgt := 36) hx hb dX8_extreme_21 (by decide) (fun c_24 => ?_) (fun c_24 => ?_)
          · have z_25 : (me k) = 0 := (hm k (by omega)).resolve_right c_24
            refine lv_iconst (v := 0) hx hb dX8_extreme_36 (by decide) ?_
            refine lv_istore (lv' := [(4, .int 0), (0, .ref am), (1, .int (-1)), (2, .int (nI j)), (3, .int (nI k))]) hx hb dX8_extreme_37 hl (by decide) rfl (fun ls hl => ?_)
            refine lv_iload hx hb dX8_extreme_39 (lv_at hl 0 rfl) ?_
            refine lv_if_eq (tgt := 63) hx hb dX8_extreme_41 (by decide) (fun c_26 => ?_) (fun c_26 => ?_)
            · refine lv_iload_n hx hb dX8_extreme_63 rfl (lv_at hl 3 rfl) ?_
              refine lv_istore_n (lv' := [(2, .int (nI j)), (4, .int 0), (0, .ref am), (1, .int (-1)), (3, .int (nI k))]) hx hb dX8_extreme_64 rfl hl (by decide) rfl (fun ls hl => ?_)
              refine lv_iinc (v := nI (k + 1)) (lv' := [(3, .int (nI (k + 1))), (2, .int (nI j)), (4, .int 0), (0, .ref am), (1, .int (-1))]) hx hb dX8_extreme_65 hl (k := 4) rfl (m_inc _) (by decide) rfl (fun ls hl => ?_)
              refine lv_goto (tgt := 4) hx hb dX8_extreme_68 (by decide) ?_
              have e_27 : oi (colO v h me (k + 1)) = nI j := (by simp [colO, oi, hO, c_21, z_25])
              exact ih (k + 1) (by omega) ls (by rw [e_27]; exact lv_sub hl [3, 4, 1, 0] rfl)
            · exact absurd c_26 (by decide)
          · have z_28 : ¬ (me k) = 0 := m_fl1 c_24
            refine lv_aload_n hx hb dX8_extreme_24 rfl (lv_at hl 0 rfl) ?_
            refine lv_iload_n hx hb dX8_extreme_25 rfl (lv_at hl 3 rfl) ?_
            refine c_roVi S9 (c_X8_isWet l G cy am aS aBf aAs aSv aPa aOu aTx aCo K OM LN PO CM iS th iw ea fa N v h pl me M db dl du dq dw E ek eb el t1 t2 t3 t4 t5 t6 k (by omega)) (cwV 1 hts gX8_extreme_X8_isWet rfl rfl rfl (by decide +kernel) ⟨Nat.le_of_ble_eq_true rfl, Nat.le_of_ble_eq_true rfl⟩) PB.blind (va_recv hK.1 hP (ci := 12) (q0 := 0) rfl rfl) (PB.at hK (m_Ppart hP [0, 1] rfl)) rfl hl.1 rfl (Nat.le_of_ble_eq_true rfl) ⟨Nat.zero_le _, Nat.zero_le _⟩ dX8_extreme_26 ?_
            refine lv_if_eq (tgt := 36) hx hb dX8_extreme_29 (by decide) (fun c_29 => ?_) (fun c_29 => ?_)
            · have b_30 : ¬ (wet v k = true) := m_ite0.mp c_29
              refine lv_iconst (v := 0) hx hb dX8_extreme_36 (by decide) ?_
              refine lv_istore (lv' := [(4, .int 0), (0, .ref am), (1, .int (-1)), (2, .int (nI j)), (3, .int (nI k))]) hx hb dX8_extreme_37 hl (by decide) rfl (fun ls hl => ?_)
              refine lv_iload hx hb dX8_extreme_39 (lv_at hl 0 rfl) ?_
              refine lv_if_eq (tgt := 63) hx hb dX8_extreme_41 (by decide) (fun c_31 => ?_) (fun c_31 => ?_)
              · refine lv_iload_n hx hb dX8_extreme_63 rfl (lv_at hl 3 rfl) ?_
                refine lv_istore_n (lv' := [(2, .int (nI j)), (4, .int 0), (0, .ref am), (1, .int (-1)), (3, .int (nI k))]) hx hb dX8_extreme_64 rfl hl (by decide) rfl (fun ls hl => ?_)
                refine lv_iinc (v := nI (k + 1)) (lv' := [(3, .int (nI (k + 1))), (2, .int (nI j)), (4, .int 0), (0, .ref am), (1, .int (-1))]) hx hb dX8_extreme_65 hl (k := 4) rfl (m_inc _) (by decide) rfl (fun ls hl => ?_)
                refine lv_goto (tgt := 4) hx hb dX8_extreme_68 (by decide) ?_
                have e_32 : oi (colO v h me (k + 1)) = nI j := (by simp [colO, oi, hO, c_21, z_28, b_30])
                exact ih (k + 1) (by omega) ls (by rw [e_32]; exact lv_sub hl [3, 4, 1, 0] rfl)
              · exact absurd c_31 (by decide)
            · have b_33 : wet v k = true := m_ite1.mp c_29
              refine lv_iconst (v := 1) hx hb dX8_extreme_32 (by decide) ?_
              refine lv_goto (tgt := 37) hx hb dX8_extreme_33 (by decide) ?_
              refine lv_istore (lv' := [(4, .int 1), (0, .ref am), (1, .int (-1)), (2, .int (nI j)), (3, .int (nI k))]) hx hb dX8_extreme_37 hl (by decide) rfl (fun ls hl => ?_)
              refine lv_iload hx hb dX8_extreme_39 (lv_at hl 0 rfl) ?_
              refine lv_if_eq (tgt := 63) hx hb dX8_extreme_41 (by decide) (fun c_34 => ?_) (fun c_34 => ?_)
              · exact absurd c_34 (by decide)
              · refine lv_iload_n hx hb dX8_extreme_44 rfl (lv_at hl 3 rfl) ?_
                refine lv_if_lt (tgt := 59) hx hb dX8_extreme_45 (by decide) (fun c_35 => ?_) (fun c_35 => ?_)
                · have k_36 : j < 0 := (m_ltN (a := j) (b := 0) rfl rfl (by omega) (by omega)).mp c_35
                  have k_36' : ¬ (0 ≤ j) := by omega
                  exfalso; omega
                · have k_37 : ¬ (j < 0) := fun z => c_35 ((m_ltN (a := j) (b := 0) rfl rfl (by omega) (by omega)).mpr z)
                  have k_37' : 0 ≤ j := by omega
                  refine lv_iload_n hx hb dX8_extreme_48 rfl (lv_at hl 2 rfl) ?_
                  refine lv_aload_n hx hb dX8_extreme_49 rfl (lv_at hl 1 rfl) ?_
                  refine lv_iload_n hx hb dX8_extreme_50 rfl (lv_at hl 4 rfl) ?_
                  refine lv_iload_n hx hb dX8_extreme_51 rfl (lv_at hl 3 rfl) ?_
                  refine c_roVi S9 (c_X8_warmer l G cy am aS aBf aAs aSv aPa aOu aTx aCo K OM LN PO CM iS th iw ea fa N v h pl me M db dl du dq dw E ek eb el t1 t2 t3 t4 t5 t6 k j (by omega) (by omega)) (cwV 2 hts gX8_extreme_X8_warmer rfl rfl rfl (by decide +kernel) ⟨Nat.le_of_ble_eq_true rfl, Nat.le_of_ble_eq_true rfl⟩) PB.blind (va_recv hK.1 hP (ci := 12) (q0 := 0) rfl rfl) (PB.at hK (m_Ppart hP [0, 1] rfl)) rfl hl.1 rfl (Nat.le_of_ble_eq_true rfl) ⟨Nat.zero_le _, Nat.zero_le _⟩ dX8_extreme_52 ?_
                  refine lv_imul hx hb dX8_extreme_55 ?_
                  refine lv_if_le (tgt := 63) hx hb dX8_extreme_56 (by decide) (fun c_38 => ?_) (fun c_38 => ?_)
                  · have c_38' : ¬ 0 < ((-1) * (h k * v j - h j * v k)) := Int32.not_lt.mpr c_38
                    have w_39 : ¬ hotter v h j k = true := fun z => (warm2 hbd (by omega) (by omega)).mpr z c_38
                    refine lv_iload_n hx hb dX8_extreme_63 rfl (lv_at hl 3 rfl) ?_
                    refine lv_istore_n (lv' := [(2, .int (nI j)), (4, .int 1), (0, .ref am), (1, .int (-1)), (3, .int (nI k))]) hx hb dX8_extreme_64 rfl hl (by decide) rfl (fun ls hl => ?_)
                    refine lv_iinc (v := nI (k + 1)) (lv' := [(3, .int (nI (k + 1))), (2, .int (nI j)), (4, .int 1), (0, .ref am), (1, .int (-1))]) hx hb dX8_extreme_65 hl (k := 4) rfl (m_inc _) (by decide) rfl (fun ls hl => ?_)
                    refine lv_goto (tgt := 4) hx hb dX8_extreme_68 (by decide) ?_
                    have e_40 : oi (colO v h me (k + 1)) = nI j := (by simp [colO, oi, hO, c_21, z_28, b_33, c_35, w_39])
                    exact ih (k + 1) (by omega) ls (by rw [e_40]; exact lv_sub hl [3, 4, 1, 0] rfl)
                  · have c_38' : 0 < ((-1) * (h k * v j - h j * v k)) := Int32.not_le.mp c_38
                    have w_41 : hotter v h j k = true := (warm2 hbd (by omega) (by omega)).mp c_38
                    refine lv_iload_n hx hb dX8_extreme_59 rfl (lv_at hl 4 rfl) ?_
                    refine lv_goto (tgt := 64) hx hb dX8_extreme_60 (by decide) ?_
                    refine lv_istore_n (lv' := [(2, .int (nI k)), (4, .int 1), (0, .ref am), (1, .int (-1)), (3, .int (nI k))]) hx hb dX8_extreme_64 rfl hl (by decide) rfl (fun ls hl => ?_)
                    refine lv_iinc (v := nI (k + 1)) (lv' := [(3, .int (nI (k + 1))), (2, .int (nI k)), (4, .int 1), (0, .ref am), (1, .int (-1))]) hx hb dX8_extreme_65 hl (k := 4) rfl (m_inc _) (by decide) rfl (fun ls hl => ?_)
                    refine lv_goto (tgt := 4) hx hb dX8_extreme_68 (by decide) ?_
                    have e_42 : oi (colO v h me (k + 1)) = nI k := (by simp [colO, oi, hO, c_21, z_28, b_33, c_35, w_41])
                    exact ih (k + 1) (by omega) ls (by rw [e_42]; exact lv_sub hl [3, 4, 1, 0] rfl)
  exact L_1 N 0 (by omega) ls (lv_sub hl [2, 3, 1, 0] rfl)

set_option maxRecDepth 100000 in
set_option maxHeartbeats 1000000 in
theorem c_X8_shared (l : Launch) (G : va_G) (cy : Nat → ClassId) (am aS aBf aAs aSv aPa aOu aTx aCo K OM LN PO CM : Nat) (iS th iw ea fa : Int32) (N : Nat) (v h pl me : Nat → Int32) (M : Nat) (db dl du dq dw : Nat → Int32) (E : Nat) (ek eb el : Nat → Int32) (t1 t2 t3 t4 t5 t6 : Int32) (a b : Nat) (hN : N ≤ 5) (hm : ∀ j, j < 5 → me j = 0 ∨ me j = 1) (hbd : Bd v h) (hO : hotO v h me N = some a) (hC : colO v h me N = some b) (hnz : ¬ v a + v b = 0) : RO l yX8_shared wsX8_shared { frames := 3, cells := 0, slots := 0, locals := 68 } (PB G cy [(am, .inr (12, [.ref aS, .ref aBf, .ref aAs, .ref aSv, .int iS, .ref aPa, .int (nI K), .int th, .ref aOu, .int (nI OM), .ref aTx, .int (nI LN), .int (nI PO), .int iw, .int ea, .int fa, .ref aCo, .int (nI CM)])), (aS, .inl (cy 2, 89, .inl (encT N v h pl me M db dl du dq dw E ek eb el t1 t2 t3 t4 t5 t6)))]) [.ref am] (some (.int (units v h a b))) := by
  refine RO.ofW (cc := cX8_shared) (maxL := 3) (ret := (some .int)) (by decide) rfl (Nat.le_of_ble_eq_true rfl) ?_
  intro p e s m below meth c S9 hr hlocks hPB ls hl
  obtain ⟨hx, hb, hml, hown, hts⟩ := id S9
  obtain ⟨hP, hK⟩ := hPB
  have hl : lv_has ls 3 [(0, .ref am)] := hl
  have hmm1 := hts (.methodLink RX8 76 Lib.Math.min.name) (by decide +kernel)
  have hmm2 := hts (.static Lib.Math.min.name) (by decide +kernel)
  have hmm3 := hts (.initialized "java/lang/Math") (by decide +kernel)
  have hmm4 := hts (.code Lib.Math.min.name Lib.Math.min.code 2 (some .int)) (by decide +kernel)
  have ha := hotO_lt hO
  have hb2 := colO_lt hC
  refine lv_aload_n hx hb dX8_shared_0 rfl (lv_at hl 0 rfl) ?_
  refine lv_iconst (v := 1) hx hb dX8_shared_1 (by decide) ?_
  refine c_roVi S9 (c_X8_extreme_hotO l G cy am aS aBf aAs aSv aPa aOu aTx aCo K OM LN PO CM iS th iw ea fa N v h pl me M db dl du dq dw E ek eb el t1 t2 t3 t4 t5 t6 (by omega) (by omega) (by omega)) (cwV 1 hts gX8_shared_X8_extreme rfl rfl rfl (by decide +kernel) ⟨Nat.le_of_ble_eq_true rfl, Nat.le_of_ble_eq_true rfl⟩) PB.blind (va_recv hK.1 hP (ci := 12) (q0 := 0) rfl rfl) (PB.at hK (m_Ppart hP [0, 1] rfl)) rfl hl.1 rfl (Nat.le_of_ble_eq_true rfl) ⟨Nat.zero_le _, Nat.zero_le _⟩ dX8_shared_2 ?_
  refine lv_t0 (show oi (hotO v h me N) = nI a from by rw [hO]; rfl) ?_
  refine lv_istore_n (lv' := [(1, .int (nI a)), (0, .ref am)]) hx hb dX8_shared_5 rfl hl (by decide) rfl (fun ls hl => ?_)
  refine lv_aload_n hx hb dX8_shared_6 rfl (lv_at hl 1 rfl) ?_
  refine lv_iconst (v := (-1)) hx hb dX8_shared_7 (by decide) ?_
  refine c_roVi S9 (c_X8_extreme_colO l G cy am aS aBf aAs aSv aPa aOu aTx aCo K OM LN PO CM iS th iw ea fa N v h pl me M db dl du dq dw E ek eb el t1 t2 t3 t4 t5 t6 (by omega) (by omega) (by omega)) (cwV 1 hts gX8_shared_X8_extreme rfl rfl rfl (by decide +kernel) ⟨Nat.le_of_ble_eq_true rfl, Nat.le_of_ble_eq_true rfl⟩) PB.blind (va_recv hK.1 hP (ci := 12) (q0 := 0) rfl rfl) (PB.at hK (m_Ppart hP [0, 1] rfl)) rfl hl.1 rfl (Nat.le_of_ble_eq_true rfl) ⟨Nat.zero_le _, Nat.zero_le _⟩ dX8_shared_8 ?_
  refine lv_t0 (show oi (colO v h me N) = nI b from by rw [hC]; rfl) ?_
  refine lv_istore_n (lv' := [(2, .int (nI b)), (1, .int (nI a)), (0, .ref am)]) hx hb dX8_shared_11 rfl hl (by decide) rfl (fun ls hl => ?_)
  refine lv_bipush (v := 20) hx hb dX8_shared_12 (by decide) ?_
  refine lv_aload_n hx hb dX8_shared_14 rfl (lv_at hl 2 rfl) ?_
  refine lv_iload_n hx hb dX8_shared_15 rfl (lv_at hl 1 rfl) ?_
  refine lv_iload_n hx hb dX8_shared_16 rfl (lv_at hl 0 rfl) ?_
  refine c_roVi S9 (c_X8_warmer l G cy am aS aBf aAs aSv aPa aOu aTx aCo K OM LN PO CM iS th iw ea fa N v h pl me M db dl du dq dw E ek eb el t1 t2 t3 t4 t5 t6 a b (by omega) (by omega)) (cwV 2 hts gX8_shared_X8_warmer rfl rfl rfl (by decide +kernel) ⟨Nat.le_of_ble_eq_true rfl, Nat.le_of_ble_eq_true rfl⟩) PB.blind (va_recv hK.1 hP (ci := 12) (q0 := 0) rfl rfl) (PB.at hK (m_Ppart hP [0, 1] rfl)) rfl hl.1 rfl (Nat.le_of_ble_eq_true rfl) ⟨Nat.zero_le _, Nat.zero_le _⟩ dX8_shared_17 ?_
  refine lv_aload_n hx hb dX8_shared_20 rfl (lv_at hl 2 rfl) ?_
  refine lv_iload_n hx hb dX8_shared_21 rfl (lv_at hl 1 rfl) ?_
  refine lv_iconst (v := 0) hx hb dX8_shared_22 (by decide) ?_
  refine c_roVi S9 (c_X8_of_v l G cy am aS aBf aAs aSv aPa aOu aTx aCo K OM LN PO CM iS th iw ea fa N v h pl me M db dl du dq dw E ek eb el t1 t2 t3 t4 t5 t6 a (by omega)) (cwV 2 hts gX8_shared_X8_of rfl rfl rfl (by decide +kernel) ⟨Nat.le_of_ble_eq_true rfl, Nat.le_of_ble_eq_true rfl⟩) PB.blind (va_recv hK.1 hP (ci := 12) (q0 := 0) rfl rfl) (PB.at hK (m_Ppart hP [0, 1] rfl)) rfl hl.1 rfl (Nat.le_of_ble_eq_true rfl) ⟨Nat.zero_le _, Nat.zero_le _⟩ dX8_shared_23 ?_
  refine lv_aload_n hx hb dX8_shared_26 rfl (lv_at hl 2 rfl) ?_
  refine lv_iload_n hx hb dX8_shared_27 rfl (lv_at hl 0 rfl) ?_
  refine lv_iconst (v := 0) hx hb dX8_shared_28 (by decide) ?_
  refine c_roVi S9 (c_X8_of_v l G cy am aS aBf aAs aSv aPa aOu aTx aCo K OM LN PO CM iS th iw ea fa N v h pl me M db dl du dq dw E ek eb el t1 t2 t3 t4 t5 t6 b (by omega)) (cwV 2 hts gX8_shared_X8_of rfl rfl rfl (by decide +kernel) ⟨Nat.le_of_ble_eq_true rfl, Nat.le_of_ble_eq_true rfl⟩) PB.blind (va_recv hK.1 hP (ci := 12) (q0 := 0) rfl rfl) (PB.at hK (m_Ppart hP [0, 1] rfl)) rfl hl.1 rfl (Nat.le_of_ble_eq_true rfl) ⟨Nat.zero_le _, Nat.zero_le _⟩ dX8_shared_29 ?_
  refine lv_iadd hx hb dX8_shared_32 ?_
  refine lv_idiv hx hb dX8_shared_33 hnz ?_
  refine va_mmin hx hb (hml.trans hl.1.symm) hown hmm1 hmm2 hmm3 hmm4 (by decide) (Nat.le_of_ble_eq_true rfl) (Nat.zero_le _) (Nat.zero_le _) dX8_shared_34 ?_
  exact ro_iret hx hb hr hlocks (by simp [units, hnz]) dX8_shared_37

set_option maxRecDepth 100000 in
set_option maxHeartbeats 1000000 in
theorem c_X8_loses (l : Launch) (G : va_G) (cy : Nat → ClassId) (am aS aBf aAs aSv aPa aOu aTx aCo K OM LN PO CM : Nat) (iS th iw ea fa : Int32) (N : Nat) (v h pl me : Nat → Int32) (M : Nat) (db dl du dq dw : Nat → Int32) (E : Nat) (ek eb el : Nat → Int32) (t1 t2 t3 t4 t5 t6 : Int32) (b : Nat) (x : Int32) (hb9 : b < 5) : WC l yX8_loses wsX8_loses { frames := 1, cells := 0, slots := 0, locals := 23 } G (PB G cy [(am, .inr (12, [.ref aS, .ref aBf, .ref aAs, .ref aSv, .int iS, .ref aPa, .int (nI K), .int th, .ref aOu, .int (nI OM), .ref aTx, .int (nI LN), .int (nI PO), .int iw, .int ea, .int fa, .ref aCo, .int (nI CM)])), (aS, .inl (cy 2, 89, .inl (encT N v h pl me M db dl du dq dw E ek eb el t1 t2 t3 t4 t5 t6)))]) [.ref am, .int (nI b), .int x] [(am, .inr (12, [.ref aS, .ref aBf, .ref aAs, .ref aSv, .int iS, .ref aPa, .int (nI K), .int th, .ref aOu, .int (nI OM), .ref aTx, .int (nI LN), .int (nI PO), .int iw, .int ea, .int fa, .ref aCo, .int (nI CM)])), (aS, .inl (cy 2, 89, .inl (encT N v h pl me M db dl du dq dw E ek eb el t1 t2 t3 t4 t5 t6)))] [(am, .inr (12, [.ref aS, .ref aBf, .ref aAs, .ref aSv, .int iS, .ref aPa, .int (nI K), .int th, .ref aOu, .int (nI OM), .ref aTx, .int (nI LN), .int (nI PO), .int iw, .int ea, .int fa, .ref aCo, .int (nI CM)])), (aS, .inl (cy 2, 89, .inl (encT N v (upd h b (h b - x)) pl me M db dl du dq dw E ek eb el t1 t2 t3 t4 t5 (t6 + x))))] (none) := by
  refine WC.ofW (cc := cX8_loses) (maxL := 3) (ret := none) (by decide) rfl (Nat.le_of_ble_eq_true rfl) ?_
  intro p e s m below meth c S9 hr hlocks hPB hD hS ls hl
  obtain ⟨hx, hb, hml, hown, hts⟩ := id S9
  obtain ⟨hP, hK⟩ := hPB
  have hl : lv_has ls 3 [(0, .ref am), (1, .int (nI b)), (2, .int x)] := hl
  have hi12 : ∀ w ∈ wsX80, w ∈ wsX8_loses := by decide +kernel
  have hf9 := hts (.fieldLink RX8 9 "BathLeagueModel" "s" "[I") (by decide +kernel)
  refine lv_aload_n hx hb dX8_loses_0 rfl (lv_at hl 0 rfl) ?_
  refine lv_iload_n hx hb dX8_loses_1 rfl (lv_at hl 1 rfl) ?_
  refine lv_iconst (v := 1) hx hb dX8_loses_2 (by decide) ?_
  refine lv_aload_n hx hb dX8_loses_3 rfl (lv_at hl 0 rfl) ?_
  refine lv_iload_n hx hb dX8_loses_4 rfl (lv_at hl 1 rfl) ?_
  refine lv_iconst (v := 1) hx hb dX8_loses_5 (by decide) ?_
  refine c_roVi S9 (c_X8_of_h l G cy am aS aBf aAs aSv aPa aOu aTx aCo K OM LN PO CM iS th iw ea fa N v h pl me M db dl du dq dw E ek eb el t1 t2 t3 t4 t5 t6 b (by omega)) (cwV 2 hts gX8_loses_X8_of rfl rfl rfl (by decide +kernel) ⟨Nat.le_of_ble_eq_true rfl, Nat.le_of_ble_eq_true rfl⟩) PB.blind (va_recv hK.1 hP (ci := 12) (q0 := 0) rfl rfl) (PB.at hK (m_Ppart hP [0, 1] rfl)) rfl hl.1 rfl (Nat.le_of_ble_eq_true rfl) ⟨Nat.zero_le _, Nat.zero_le _⟩ dX8_loses_6 ?_
  refine lv_iload_n hx hb dX8_loses_9 rfl (lv_at hl 2 rfl) ?_
  refine lv_isub hx hb dX8_loses_10 ?_
  refine c_wcVv (ws' := [(am, .inr (12, [.ref aS, .ref aBf, .ref aAs, .ref aSv, .int iS, .ref aPa, .int (nI K), .int th, .ref aOu, .int (nI OM), .ref aTx, .int (nI LN), .int (nI PO), .int iw, .int ea, .int fa, .ref aCo, .int (nI CM)])), (aS, .inl (cy 2, 89, .inl (encT N v (upd h b ((h b) - x)) pl me M db dl du dq dw E ek eb el t1 t2 t3 t4 t5 t6)))]) S9 (c_X8_sets_h l G cy am aS aBf aAs aSv aPa aOu aTx aCo K OM LN PO CM iS th iw ea fa N v h pl me M db dl du dq dw E ek eb el t1 t2 t3 t4 t5 t6 b ((h b) - x) (by omega)) (cwV 3 hts gX8_loses_X8_sets rfl rfl rfl (by decide +kernel) ⟨Nat.le_of_ble_eq_true rfl, Nat.le_of_ble_eq_true rfl⟩) PB.blind (va_recv hK.1 hP (ci := 12) (q0 := 0) rfl rfl) (PB.at hK (m_Ppart hP [0, 1] rfl)) hP hD hS [0, 1] rfl rfl m_f2 rfl rfl hl.1 rfl (Nat.le_of_ble_eq_true rfl) ⟨Nat.zero_le _, Nat.zero_le _⟩ dX8_loses_11 (fun H locs hP hD hS => ?_)
  refine lv_aload_n hx hb dX8_loses_14 rfl (lv_at hl 0 rfl) ?_
  refine va_get (D := G) (ci := 12) (v := .ref aS) (C := RX8) (T := TX8) (N := 18) hx hb hts hi12 hown hK.1 hP 0 rfl rfl 0 (by decide) hf9 (fun _ h9 => h9) rfl dX8_loses_15 ?_
  refine lv_bipush (v := 8) hx hb dX8_loses_18 (by decide) ?_
  refine lv_dup2_11 hx hb dX8_loses_20 rfl rfl ?_
  refine m_iald hx hb hK hP 1 (k := 8) rfl rfl (by omega) (Nat.le_of_ble_eq_true rfl) dX8_loses_21 ?_
  refine lv_t0 (encR_8 rfl) ?_
  refine lv_iload_n hx hb dX8_loses_22 rfl (lv_at hl 2 rfl) ?_
  refine lv_iadd hx hb dX8_loses_23 ?_
  refine m_iast hx hb hK hP hD hS 1 (k := 8) rfl rfl (by omega) (Nat.le_of_ble_eq_true rfl) dX8_loses_24 (fun H locs hP hD hS => ?_)
  rw [encU_8 (j := 8) rfl] at hP hD
  have hP : va_P G vwCl [(am, .inr (12, [.ref aS, .ref aBf, .ref aAs, .ref aSv, .int iS, .ref aPa, .int (nI K), .int th, .ref aOu, .int (nI OM), .ref aTx, .int (nI LN), .int (nI PO), .int iw, .int ea, .int fa, .ref aCo, .int (nI CM)])), (aS, .inl (cy 2, 89, .inl (encT N v (upd h b ((h b) - x)) pl me M db dl du dq dw E ek eb el t1 t2 t3 t4 t5 (t6 + x))))] H := hP
  have hD : va_D (wA [(am, .inr (12, [.ref aS, .ref aBf, .ref aAs, .ref aSv, .int iS, .ref aPa, .int (nI K), .int th, .ref aOu, .int (nI OM), .ref aTx, .int (nI LN), .int (nI PO), .int iw, .int ea, .int fa, .ref aCo, .int (nI CM)])), (aS, .inl (cy 2, 89, .inl (encT N v h pl me M db dl du dq dw E ek eb el t1 t2 t3 t4 t5 t6)))]) [(am, .inr (12, [.ref aS, .ref aBf, .ref aAs, .ref aSv, .int iS, .ref aPa, .int (nI K), .int th, .ref aOu, .int (nI OM), .ref aTx, .int (nI LN), .int (nI PO), .int iw, .int ea, .int fa, .ref aCo, .int (nI CM)])), (aS, .inl (cy 2, 89, .inl (encT N v (upd h b ((h b) - x)) pl me M db dl du dq dw E ek eb el t1 t2 t3 t4 t5 (t6 + x))))] := hD
  have e_1 : encT N v (upd h b (h b - x)) pl me M db dl du dq dw E ek eb el t1 t2 t3 t4 t5 (t6 + x) = encT N v (upd h b ((h b) - x)) pl me M db dl du dq dw E ek eb el t1 t2 t3 t4 t5 (t6 + x) := (by simp [*])
  exact wc_vret hx hb hr hlocks (by rw [e_1]; exact hP) hS dX8_loses_25

set_option maxRecDepth 100000 in
set_option maxHeartbeats 1000000 in
theorem c_X8_tapDegrees (l : Launch) (G : va_G) (cy : Nat → ClassId) (t : Int32) : RO l yX8_tapDegrees wsX8_tapDegrees { frames := 0, cells := 0, slots := 0, locals := 0 } (PB G cy []) [.int t] (some (.int (10 + 30 * t))) := by
  refine RO.ofW (cc := cX8_tapDegrees) (maxL := 1) (ret := (some .int)) (by decide) rfl (Nat.le_of_ble_eq_true rfl) ?_
  intro p e s m below meth c S9 hr hlocks hPB ls hl
  obtain ⟨hx, hb, hml, hown, hts⟩ := id S9
  obtain ⟨hP, hK⟩ := hPB
  have hl : lv_has ls 1 [(0, .int t)] := hl
  refine lv_bipush (v := 10) hx hb dX8_tapDegrees_0 (by decide) ?_
  refine lv_bipush (v := 30) hx hb dX8_tapDegrees_2 (by decide) ?_
  refine lv_iload_n hx hb dX8_tapDegrees_4 rfl (lv_at hl 0 rfl) ?_
  refine lv_imul hx hb dX8_tapDegrees_5 ?_
  refine lv_iadd hx hb dX8_tapDegrees_6 ?_
  exact ro_iret hx hb hr hlocks rfl dX8_tapDegrees_7
