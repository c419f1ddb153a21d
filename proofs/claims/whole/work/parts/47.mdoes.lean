set_option maxRecDepth 100000 in
set_option maxHeartbeats 1000000 in
theorem c_X8_does_tap_ok (l : Launch) (G : va_G) (cy : Nat → ClassId) (am aS aBf aAs aSv aPa aOu aTx aCo K OM LN CM : Nat) (iS th ea fa : Int32) (σ : St) (x : Lx) (g : Nat → Int32) (i : Nat) (a b c : Int32) (ho : Ok σ) (hi : i < 60) (e0 : g (4 * i) = 97) (e1 : g (4 * i + 1) = a) (e2 : g (4 * i + 2) = b) (e3 : g (4 * i + 3) = c) (hb9 : a = nI (bx a)) (hq9 : ¬ c = -1) (hF : filF (nB σ) (vB σ) a b c = 0) : WC l yX8_does wsX8_does { frames := 6, cells := 0, slots := 0, locals := 136 } G (PB G cy [(am, .inr (12, [.ref aS, .ref aBf, .ref aAs, .ref aSv, .int iS, .ref aPa, .int (nI K), .int th, .ref aOu, .int (nI OM), .ref aTx, .int (nI LN), .int (nI x.1), .int (bI x.2), .int ea, .int fa, .ref aCo, .int (nI CM)])), (aS, .inl (cy 2, 89, .inl (encS σ))), (aCo, .inl (cy 2, 240, .inl g))]) [.ref am, .int (nI i)] [(am, .inr (12, [.ref aS, .ref aBf, .ref aAs, .ref aSv, .int iS, .ref aPa, .int (nI K), .int th, .ref aOu, .int (nI OM), .ref aTx, .int (nI LN), .int (nI x.1), .int (bI x.2), .int ea, .int fa, .ref aCo, .int (nI CM)])), (aS, .inl (cy 2, 89, .inl (encS σ))), (aCo, .inl (cy 2, 240, .inl g))] [(am, .inr (12, [.ref aS, .ref aBf, .ref aAs, .ref aSv, .int iS, .ref aPa, .int (nI K), .int th, .ref aOu, .int (nI OM), .ref aTx, .int (nI LN), .int (nI x.1), .int (bI x.2), .int ea, .int fa, .ref aCo, .int (nI CM)])), (aS, .inl (cy 2, 89, .inl (encS (filS (bx a) c (c * (10 + 30 * b)) σ)))), (aCo, .inl (cy 2, 240, .inl g))] (none) := by
  refine WC.ofW (cc := cX8_does) (maxL := 6) (ret := none) (by decide) rfl (Nat.le_of_ble_eq_true rfl) ?_
  intro p e s m below meth cq S9 hr hlocks hPB hD hS ls hl
  obtain ⟨hxq, hb, hml, hown, hts⟩ := id S9
  obtain ⟨hP, hK⟩ := hPB
  have hl : lv_has ls 6 [(0, .ref am), (1, .int (nI i))] := hl
  have hP : va_P G vwCl [(am, .inr (12, [.ref aS, .ref aBf, .ref aAs, .ref aSv, .int iS, .ref aPa, .int (nI K), .int th, .ref aOu, .int (nI OM), .ref aTx, .int (nI LN), .int (nI x.1), .int (bI x.2), .int ea, .int fa, .ref aCo, .int (nI CM)])), (aS, .inl (cy 2, 89, .inl (encT (nB σ) (vB σ) (hB σ) (pB σ) (mB σ) (nD σ) (bD σ) (lD σ) (uD σ) (qD σ) (wD σ) (nE σ) (kE σ) (bE σ) (lE σ) (tT σ) (dT σ) (aT σ) (rT σ) (hT σ) (xT σ)))), (aCo, .inl (cy 2, 240, .inl g))] s.heap := hP
  have hD0 := hD
  have hD : va_D (wA [(am, .inr (12, [.ref aS, .ref aBf, .ref aAs, .ref aSv, .int iS, .ref aPa, .int (nI K), .int th, .ref aOu, .int (nI OM), .ref aTx, .int (nI LN), .int (nI x.1), .int (bI x.2), .int ea, .int fa, .ref aCo, .int (nI CM)])), (aS, .inl (cy 2, 89, .inl (encS σ))), (aCo, .inl (cy 2, 240, .inl g))]) [(am, .inr (12, [.ref aS, .ref aBf, .ref aAs, .ref aSv, .int iS, .ref aPa, .int (nI K), .int th, .ref aOu, .int (nI OM), .ref aTx, .int (nI LN), .int (nI x.1), .int (bI x.2), .int ea, .int fa, .ref aCo, .int (nI CM)])), (aS, .inl (cy 2, 89, .inl (encT (nB σ) (vB σ) (hB σ) (pB σ) (mB σ) (nD σ) (bD σ) (lD σ) (uD σ) (qD σ) (wD σ) (nE σ) (kE σ) (bE σ) (lE σ) (tT σ) (dT σ) (aT σ) (rT σ) (hT σ) (xT σ)))), (aCo, .inl (cy 2, 240, .inl g))] := hD
  have hi12 : ∀ w ∈ wsX80, w ∈ wsX8_does := by decide +kernel
  have hf39 := hts (.fieldLink RX8 39 "BathLeagueModel" "commands" "[I") (by decide +kernel)
  have hN0 := ho.1
  have hM0 := ho.2.1
  refine lv_aload_n hxq hb dX8_does_0 rfl (lv_at hl 0 rfl) ?_
  refine va_get (D := G) (ci := 12) (v := .ref aCo) (C := RX8) (T := TX8) (N := 18) hxq hb hts hi12 hown hK.1 hP 0 rfl rfl 16 (by decide) hf39 (fun _ h9 => h9) rfl dX8_does_1 ?_
  refine lv_iconst (v := 4) hxq hb dX8_does_4 (by decide) ?_
  refine lv_iload_n hxq hb dX8_does_5 rfl (lv_at hl 1 rfl) ?_
  refine lv_imul hxq hb dX8_does_6 ?_
  refine lv_iconst (v := 1) hxq hb dX8_does_7 (by decide) ?_
  refine lv_iadd hxq hb dX8_does_8 ?_
  refine m_iald hxq hb hK hP 2 (k := (4 * i) + 1) rfl (m_add (m_mul rfl rfl) rfl) (by omega) (Nat.le_of_ble_eq_true rfl) dX8_does_9 ?_
  refine lv_t0 (show g ((4 * i) + 1) = a from e1) ?_
  refine lv_istore_n (lv' := [(2, .int a), (0, .ref am), (1, .int (nI i))]) hxq hb dX8_does_10 rfl hl (by decide) rfl (fun ls hl => ?_)
  refine lv_aload_n hxq hb dX8_does_11 rfl (lv_at hl 1 rfl) ?_
  refine va_get (D := G) (ci := 12) (v := .ref aCo) (C := RX8) (T := TX8) (N := 18) hxq hb hts hi12 hown hK.1 hP 0 rfl rfl 16 (by decide) hf39 (fun _ h9 => h9) rfl dX8_does_12 ?_
  refine lv_iconst (v := 4) hxq hb dX8_does_15 (by decide) ?_
  refine lv_iload_n hxq hb dX8_does_16 rfl (lv_at hl 2 rfl) ?_
  refine lv_imul hxq hb dX8_does_17 ?_
  refine lv_iconst (v := 2) hxq hb dX8_does_18 (by decide) ?_
  refine lv_iadd hxq hb dX8_does_19 ?_
  refine m_iald hxq hb hK hP 2 (k := (4 * i) + 2) rfl (m_add (m_mul rfl rfl) rfl) (by omega) (Nat.le_of_ble_eq_true rfl) dX8_does_20 ?_
  refine lv_t0 (show g ((4 * i) + 2) = b from e2) ?_
  refine lv_istore_n (lv' := [(3, .int b), (2, .int a), (0, .ref am), (1, .int (nI i))]) hxq hb dX8_does_21 rfl hl (by decide) rfl (fun ls hl => ?_)
  refine lv_aload_n hxq hb dX8_does_22 rfl (lv_at hl 2 rfl) ?_
  refine va_get (D := G) (ci := 12) (v := .ref aCo) (C := RX8) (T := TX8) (N := 18) hxq hb hts hi12 hown hK.1 hP 0 rfl rfl 16 (by decide) hf39 (fun _ h9 => h9) rfl dX8_does_23 ?_
  refine lv_iconst (v := 4) hxq hb dX8_does_26 (by decide) ?_
  refine lv_iload_n hxq hb dX8_does_27 rfl (lv_at hl 3 rfl) ?_
  refine lv_imul hxq hb dX8_does_28 ?_
  refine lv_iconst (v := 3) hxq hb dX8_does_29 (by decide) ?_
  refine lv_iadd hxq hb dX8_does_30 ?_
  refine m_iald hxq hb hK hP 2 (k := (4 * i) + 3) rfl (m_add (m_mul rfl rfl) rfl) (by omega) (Nat.le_of_ble_eq_true rfl) dX8_does_31 ?_
  refine lv_t0 (show g ((4 * i) + 3) = c from e3) ?_
  refine lv_istore (lv' := [(4, .int c), (3, .int b), (2, .int a), (0, .ref am), (1, .int (nI i))]) hxq hb dX8_does_32 hl (by decide) rfl (fun ls hl => ?_)
  refine lv_aload_n hxq hb dX8_does_34 rfl (lv_at hl 3 rfl) ?_
  refine va_get (D := G) (ci := 12) (v := .ref aCo) (C := RX8) (T := TX8) (N := 18) hxq hb hts hi12 hown hK.1 hP 0 rfl rfl 16 (by decide) hf39 (fun _ h9 => h9) rfl dX8_does_35 ?_
  refine lv_iconst (v := 4) hxq hb dX8_does_38 (by decide) ?_
  refine lv_iload_n hxq hb dX8_does_39 rfl (lv_at hl 4 rfl) ?_
  refine lv_imul hxq hb dX8_does_40 ?_
  refine m_iald hxq hb hK hP 2 (k := 4 * i) rfl (m_mul rfl rfl) (by omega) (Nat.le_of_ble_eq_true rfl) dX8_does_41 ?_
  refine lv_t0 e0 ?_
  refine lv_tableIn (off := 78) (tgt := 120) hxq hb dX8_does_42 (by decide) (by decide) (by decide) (by decide) ?_
  refine lv_aload_n hxq hb dX8_does_120 rfl (lv_at hl 3 rfl) ?_
  refine lv_iload_n hxq hb dX8_does_121 rfl (lv_at hl 2 rfl) ?_
  refine lv_iload_n hxq hb dX8_does_122 rfl (lv_at hl 1 rfl) ?_
  refine lv_iload hxq hb dX8_does_123 (lv_at hl 0 rfl) ?_
  refine c_wcVi (ws' := [(am, .inr (12, [.ref aS, .ref aBf, .ref aAs, .ref aSv, .int iS, .ref aPa, .int (nI K), .int th, .ref aOu, .int (nI OM), .ref aTx, .int (nI LN), .int (nI x.1), .int (bI x.2), .int ea, .int fa, .ref aCo, .int (nI CM)])), (aS, .inl (cy 2, 89, .inl (encT (nB σ) (upd (vB σ) (bx a) ((vB σ) (bx a) + c)) (upd (hB σ) (bx a) ((hB σ) (bx a) + c * (10 + 30 * b))) (pB σ) (mB σ) (nD σ) (bD σ) (lD σ) (uD σ) (obsQ (plz (upd (vB σ) (bx a) ((vB σ) (bx a) + c)) (upd (hB σ) (bx a) ((hB σ) (bx a) + c * (10 + 30 * b))) (bD σ) (lD σ) (uD σ)) (qD σ) (wD σ) (nD σ)) (obsW (plz (upd (vB σ) (bx a) ((vB σ) (bx a) + c)) (upd (hB σ) (bx a) ((hB σ) (bx a) + c * (10 + 30 * b))) (bD σ) (lD σ) (uD σ)) (wD σ) (nD σ)) (evc (nE σ)) (psh (kE σ) 116) (psh (bE σ) a) (psh (lE σ) c) (tT σ) (dT σ) ((aT σ) + c) (rT σ) ((hT σ) + c * (10 + 30 * b)) (xT σ)))), (aCo, .inl (cy 2, 240, .inl g))]) S9 (c_X8_doRunTap_ok l G cy am aS aBf aAs aSv aPa aOu aTx aCo K OM LN x.1 CM iS th (bI x.2) ea fa (nB σ) (vB σ) (hB σ) (pB σ) (mB σ) (nD σ) (bD σ) (lD σ) (uD σ) (qD σ) (wD σ) (nE σ) (kE σ) (bE σ) (lE σ) (tT σ) (dT σ) (aT σ) (rT σ) (hT σ) (xT σ) a b c ho.1 ho.2.1 ho.2.2.1 ho.d ho.w01 hq9 hF) (cwV 3 hts gX8_does_X8_doRunTap rfl rfl rfl (by decide +kernel) ⟨Nat.le_of_ble_eq_true rfl, Nat.le_of_ble_eq_true rfl⟩) PB.blind (va_recv hK.1 hP (ci := 12) (q0 := 0) rfl rfl) (PB.at hK (m_Ppart hP [0, 1] rfl)) hP hD hS [0, 1] rfl rfl m_f2 rfl rfl hl.1 rfl (Nat.le_of_ble_eq_true rfl) ⟨Nat.zero_le _, Nat.zero_le _⟩ dX8_does_125 (fun H locs hP hD hS => ?_)
  have hP : va_P G vwCl [(am, .inr (12, [.ref aS, .ref aBf, .ref aAs, .ref aSv, .int iS, .ref aPa, .int (nI K), .int th, .ref aOu, .int (nI OM), .ref aTx, .int (nI LN), .int (nI x.1), .int (bI x.2), .int ea, .int fa, .ref aCo, .int (nI CM)])), (aS, .inl (cy 2, 89, .inl (encS (filS (bx a) c (c * (10 + 30 * b)) σ)))), (aCo, .inl (cy 2, 240, .inl g))] H := by rw [show filS (bx a) c (c * (10 + 30 * b)) σ = (((nB σ), (upd (vB σ) (bx a) ((vB σ) (bx a) + c)), (upd (hB σ) (bx a) ((hB σ) (bx a) + c * (10 + 30 * b))), (pB σ), (mB σ)), ((nD σ), (bD σ), (lD σ), (uD σ), (obsQ (plz (upd (vB σ) (bx a) ((vB σ) (bx a) + c)) (upd (hB σ) (bx a) ((hB σ) (bx a) + c * (10 + 30 * b))) (bD σ) (lD σ) (uD σ)) (qD σ) (wD σ) (nD σ)), (obsW (plz (upd (vB σ) (bx a) ((vB σ) (bx a) + c)) (upd (hB σ) (bx a) ((hB σ) (bx a) + c * (10 + 30 * b))) (bD σ) (lD σ) (uD σ)) (wD σ) (nD σ))), ((evc (nE σ)), (psh (kE σ) 116), (psh (bE σ) a), (psh (lE σ) c)), ((tT σ), (dT σ), ((aT σ) + c), (rT σ), ((hT σ) + c * (10 + 30 * b)), (xT σ))) from by unfold filS ntS fillU; rw [← hb9]; rfl, encS_mk]; exact hP
  have hD : va_D (wA [(am, .inr (12, [.ref aS, .ref aBf, .ref aAs, .ref aSv, .int iS, .ref aPa, .int (nI K), .int th, .ref aOu, .int (nI OM), .ref aTx, .int (nI LN), .int (nI x.1), .int (bI x.2), .int ea, .int fa, .ref aCo, .int (nI CM)])), (aS, .inl (cy 2, 89, .inl (encS σ))), (aCo, .inl (cy 2, 240, .inl g))]) [(am, .inr (12, [.ref aS, .ref aBf, .ref aAs, .ref aSv, .int iS, .ref aPa, .int (nI K), .int th, .ref aOu, .int (nI OM), .ref aTx, .int (nI LN), .int (nI x.1), .int (bI x.2), .int ea, .int fa, .ref aCo, .int (nI CM)])), (aS, .inl (cy 2, 89, .inl (encS (filS (bx a) c (c * (10 + 30 * b)) σ)))), (aCo, .inl (cy 2, 240, .inl g))] := m_D3 hD0
  have hP : va_P G vwCl [(am, .inr (12, [.ref aS, .ref aBf, .ref aAs, .ref aSv, .int iS, .ref aPa, .int (nI K), .int th, .ref aOu, .int (nI OM), .ref aTx, .int (nI LN), .int (nI x.1), .int (bI x.2), .int ea, .int fa, .ref aCo, .int (nI CM)])), (aS, .inl (cy 2, 89, .inl (encT (nB (filS (bx a) c (c * (10 + 30 * b)) σ)) (vB (filS (bx a) c (c * (10 + 30 * b)) σ)) (hB (filS (bx a) c (c * (10 + 30 * b)) σ)) (pB (filS (bx a) c (c * (10 + 30 * b)) σ)) (mB (filS (bx a) c (c * (10 + 30 * b)) σ)) (nD (filS (bx a) c (c * (10 + 30 * b)) σ)) (bD (filS (bx a) c (c * (10 + 30 * b)) σ)) (lD (filS (bx a) c (c * (10 + 30 * b)) σ)) (uD (filS (bx a) c (c * (10 + 30 * b)) σ)) (qD (filS (bx a) c (c * (10 + 30 * b)) σ)) (wD (filS (bx a) c (c * (10 + 30 * b)) σ)) (nE (filS (bx a) c (c * (10 + 30 * b)) σ)) (kE (filS (bx a) c (c * (10 + 30 * b)) σ)) (bE (filS (bx a) c (c * (10 + 30 * b)) σ)) (lE (filS (bx a) c (c * (10 + 30 * b)) σ)) (tT (filS (bx a) c (c * (10 + 30 * b)) σ)) (dT (filS (bx a) c (c * (10 + 30 * b)) σ)) (aT (filS (bx a) c (c * (10 + 30 * b)) σ)) (rT (filS (bx a) c (c * (10 + 30 * b)) σ)) (hT (filS (bx a) c (c * (10 + 30 * b)) σ)) (xT (filS (bx a) c (c * (10 + 30 * b)) σ))))), (aCo, .inl (cy 2, 240, .inl g))] H := hP
  have hD : va_D (wA [(am, .inr (12, [.ref aS, .ref aBf, .ref aAs, .ref aSv, .int iS, .ref aPa, .int (nI K), .int th, .ref aOu, .int (nI OM), .ref aTx, .int (nI LN), .int (nI x.1), .int (bI x.2), .int ea, .int fa, .ref aCo, .int (nI CM)])), (aS, .inl (cy 2, 89, .inl (encS σ))), (aCo, .inl (cy 2, 240, .inl g))]) [(am, .inr (12, [.ref aS, .ref aBf, .ref aAs, .ref aSv, .int iS, .ref aPa, .int (nI K), .int th, .ref aOu, .int (nI OM), .ref aTx, .int (nI LN), .int (nI x.1), .int (bI x.2), .int ea, .int fa, .ref aCo, .int (nI CM)])), (aS, .inl (cy 2, 89, .inl (encT (nB (filS (bx a) c (c * (10 + 30 * b)) σ)) (vB (filS (bx a) c (c * (10 + 30 * b)) σ)) (hB (filS (bx a) c (c * (10 + 30 * b)) σ)) (pB (filS (bx a) c (c * (10 + 30 * b)) σ)) (mB (filS (bx a) c (c * (10 + 30 * b)) σ)) (nD (filS (bx a) c (c * (10 + 30 * b)) σ)) (bD (filS (bx a) c (c * (10 + 30 * b)) σ)) (lD (filS (bx a) c (c * (10 + 30 * b)) σ)) (uD (filS (bx a) c (c * (10 + 30 * b)) σ)) (qD (filS (bx a) c (c * (10 + 30 * b)) σ)) (wD (filS (bx a) c (c * (10 + 30 * b)) σ)) (nE (filS (bx a) c (c * (10 + 30 * b)) σ)) (kE (filS (bx a) c (c * (10 + 30 * b)) σ)) (bE (filS (bx a) c (c * (10 + 30 * b)) σ)) (lE (filS (bx a) c (c * (10 + 30 * b)) σ)) (tT (filS (bx a) c (c * (10 + 30 * b)) σ)) (dT (filS (bx a) c (c * (10 + 30 * b)) σ)) (aT (filS (bx a) c (c * (10 + 30 * b)) σ)) (rT (filS (bx a) c (c * (10 + 30 * b)) σ)) (hT (filS (bx a) c (c * (10 + 30 * b)) σ)) (xT (filS (bx a) c (c * (10 + 30 * b)) σ))))), (aCo, .inl (cy 2, 240, .inl g))] := hD
  refine lv_istore (lv' := [(5, .int ((vB σ) (bx a) + c)), (4, .int c), (3, .int b), (2, .int a), (0, .ref am), (1, .int (nI i))]) hxq hb dX8_does_128 hl (by decide) rfl (fun ls hl => ?_)
  refine lv_goto (tgt := 215) hxq hb dX8_does_130 (by decide) ?_
  exact wc_vret hxq hb hr hlocks hP hS dX8_does_215

set_option maxRecDepth 100000 in
set_option maxHeartbeats 1000000 in
theorem c_X8_does_tap_no (l : Launch) (G : va_G) (cy : Nat → ClassId) (am aS aBf aAs aSv aPa aOu aTx aCo K OM LN CM : Nat) (iS th ea fa : Int32) (σ : St) (x : Lx) (g : Nat → Int32) (i : Nat) (a b c : Int32) (ho : Ok σ) (hi : i < 60) (e0 : g (4 * i) = 97) (e1 : g (4 * i + 1) = a) (e2 : g (4 * i + 2) = b) (e3 : g (4 * i + 3) = c) (hF : ¬ filF (nB σ) (vB σ) a b c = 0) : WC l yX8_does wsX8_does { frames := 6, cells := 0, slots := 0, locals := 136 } G (PB G cy [(am, .inr (12, [.ref aS, .ref aBf, .ref aAs, .ref aSv, .int iS, .ref aPa, .int (nI K), .int th, .ref aOu, .int (nI OM), .ref aTx, .int (nI LN), .int (nI x.1), .int (bI x.2), .int ea, .int fa, .ref aCo, .int (nI CM)])), (aS, .inl (cy 2, 89, .inl (encS σ))), (aCo, .inl (cy 2, 240, .inl g))]) [.ref am, .int (nI i)] [(am, .inr (12, [.ref aS, .ref aBf, .ref aAs, .ref aSv, .int iS, .ref aPa, .int (nI K), .int th, .ref aOu, .int (nI OM), .ref aTx, .int (nI LN), .int (nI x.1), .int (bI x.2), .int ea, .int fa, .ref aCo, .int (nI CM)])), (aS, .inl (cy 2, 89, .inl (encS σ))), (aCo, .inl (cy 2, 240, .inl g))] [(am, .inr (12, [.ref aS, .ref aBf, .ref aAs, .ref aSv, .int iS, .ref aPa, .int (nI K), .int (mcT (filF (nB σ) (vB σ) a b c)), .ref aOu, .int (nI OM), .ref aTx, .int (nI LN), .int (nI x.1), .int (bI x.2), .int ea, .int fa, .ref aCo, .int (nI CM)])), (aS, .inl (cy 2, 89, .inl (encS σ))), (aCo, .inl (cy 2, 240, .inl g))] (none) := by
  refine WC.ofW (cc := cX8_does) (maxL := 6) (ret := none) (by decide) rfl (Nat.le_of_ble_eq_true rfl) ?_
  intro p e s m below meth cq S9 hr hlocks hPB hD hS ls hl
  obtain ⟨hxq, hb, hml, hown, hts⟩ := id S9
  obtain ⟨hP, hK⟩ := hPB
  have hl : lv_has ls 6 [(0, .ref am), (1, .int (nI i))] := hl
  have hP : va_P G vwCl [(am, .inr (12, [.ref aS, .ref aBf, .ref aAs, .ref aSv, .int iS, .ref aPa, .int (nI K), .int th, .ref aOu, .int (nI OM), .ref aTx, .int (nI LN), .int (nI x.1), .int (bI x.2), .int ea, .int fa, .ref aCo, .int (nI CM)])), (aS, .inl (cy 2, 89, .inl (encT (nB σ) (vB σ) (hB σ) (pB σ) (mB σ) (nD σ) (bD σ) (lD σ) (uD σ) (qD σ) (wD σ) (nE σ) (kE σ) (bE σ) (lE σ) (tT σ) (dT σ) (aT σ) (rT σ) (hT σ) (xT σ)))), (aCo, .inl (cy 2, 240, .inl g))] s.heap := hP
  have hD0 := hD
  have hD : va_D (wA [(am, .inr (12, [.ref aS, .ref aBf, .ref aAs, .ref aSv, .int iS, .ref aPa, .int (nI K), .int th, .ref aOu, .int (nI OM), .ref aTx, .int (nI LN), .int (nI x.1), .int (bI x.2), .int ea, .int fa, .ref aCo, .int (nI CM)])), (aS, .inl (cy 2, 89, .inl (encS σ))), (aCo, .inl (cy 2, 240, .inl g))]) [(am, .inr (12, [.ref aS, .ref aBf, .ref aAs, .ref aSv, .int iS, .ref aPa, .int (nI K), .int th, .ref aOu, .int (nI OM), .ref aTx, .int (nI LN), .int (nI x.1), .int (bI x.2), .int ea, .int fa, .ref aCo, .int (nI CM)])), (aS, .inl (cy 2, 89, .inl (encT (nB σ) (vB σ) (hB σ) (pB σ) (mB σ) (nD σ) (bD σ) (lD σ) (uD σ) (qD σ) (wD σ) (nE σ) (kE σ) (bE σ) (lE σ) (tT σ) (dT σ) (aT σ) (rT σ) (hT σ) (xT σ)))), (aCo, .inl (cy 2, 240, .inl g))] := hD
  have hi12 : ∀ w ∈ wsX80, w ∈ wsX8_does := by decide +kernel
  have hf39 := hts (.fieldLink RX8 39 "BathLeagueModel" "commands" "[I") (by decide +kernel)
  have hN0 := ho.1
  have hM0 := ho.2.1
  refine lv_aload_n hxq hb dX8_does_0 rfl (lv_at hl 0 rfl) ?_
  refine va_get (D := G) (ci := 12) (v := .ref aCo) (C := RX8) (T := TX8) (N := 18) hxq hb hts hi12 hown hK.1 hP 0 rfl rfl 16 (by decide) hf39 (fun _ h9 => h9) rfl dX8_does_1 ?_
  refine lv_iconst (v := 4) hxq hb dX8_does_4 (by decide) ?_
  refine lv_iload_n hxq hb dX8_does_5 rfl (lv_at hl 1 rfl) ?_
  refine lv_imul hxq hb dX8_does_6 ?_
  refine lv_iconst (v := 1) hxq hb dX8_does_7 (by decide) ?_
  refine lv_iadd hxq hb dX8_does_8 ?_
  refine m_iald hxq hb hK hP 2 (k := (4 * i) + 1) rfl (m_add (m_mul rfl rfl) rfl) (by omega) (Nat.le_of_ble_eq_true rfl) dX8_does_9 ?_
  refine lv_t0 (show g ((4 * i) + 1) = a from e1) ?_
  refine lv_istore_n (lv' := [(2, .int a), (0, .ref am), (1, .int (nI i))]) hxq hb dX8_does_10 rfl hl (by decide) rfl (fun ls hl => ?_)
  refine lv_aload_n hxq hb dX8_does_11 rfl (lv_at hl 1 rfl) ?_
  refine va_get (D := G) (ci := 12) (v := .ref aCo) (C := RX8) (T := TX8) (N := 18) hxq hb hts hi12 hown hK.1 hP 0 rfl rfl 16 (by decide) hf39 (fun _ h9 => h9) rfl dX8_does_12 ?_
  refine lv_iconst (v := 4) hxq hb dX8_does_15 (by decide) ?_
  refine lv_iload_n hxq hb dX8_does_16 rfl (lv_at hl 2 rfl) ?_
  refine lv_imul hxq hb dX8_does_17 ?_
  refine lv_iconst (v := 2) hxq hb dX8_does_18 (by decide) ?_
  refine lv_iadd hxq hb dX8_does_19 ?_
  refine m_iald hxq hb hK hP 2 (k := (4 * i) + 2) rfl (m_add (m_mul rfl rfl) rfl) (by omega) (Nat.le_of_ble_eq_true rfl) dX8_does_20 ?_
  refine lv_t0 (show g ((4 * i) + 2) = b from e2) ?_
  refine lv_istore_n (lv' := [(3, .int b), (2, .int a), (0, .ref am), (1, .int (nI i))]) hxq hb dX8_does_21 rfl hl (by decide) rfl (fun ls hl => ?_)
  refine lv_aload_n hxq hb dX8_does_22 rfl (lv_at hl 2 rfl) ?_
  refine va_get (D := G) (ci := 12) (v := .ref aCo) (C := RX8) (T := TX8) (N := 18) hxq hb hts hi12 hown hK.1 hP 0 rfl rfl 16 (by decide) hf39 (fun _ h9 => h9) rfl dX8_does_23 ?_
  refine lv_iconst (v := 4) hxq hb dX8_does_26 (by decide) ?_
  refine lv_iload_n hxq hb dX8_does_27 rfl (lv_at hl 3 rfl) ?_
  refine lv_imul hxq hb dX8_does_28 ?_
  refine lv_iconst (v := 3) hxq hb dX8_does_29 (by decide) ?_
  refine lv_iadd hxq hb dX8_does_30 ?_
  refine m_iald hxq hb hK hP 2 (k := (4 * i) + 3) rfl (m_add (m_mul rfl rfl) rfl) (by omega) (Nat.le_of_ble_eq_true rfl) dX8_does_31 ?_
  refine lv_t0 (show g ((4 * i) + 3) = c from e3) ?_
  refine lv_istore (lv' := [(4, .int c), (3, .int b), (2, .int a), (0, .ref am), (1, .int (nI i))]) hxq hb dX8_does_32 hl (by decide) rfl (fun ls hl => ?_)
  refine lv_aload_n hxq hb dX8_does_34 rfl (lv_at hl 3 rfl) ?_
  refine va_get (D := G) (ci := 12) (v := .ref aCo) (C := RX8) (T := TX8) (N := 18) hxq hb hts hi12 hown hK.1 hP 0 rfl rfl 16 (by decide) hf39 (fun _ h9 => h9) rfl dX8_does_35 ?_
  refine lv_iconst (v := 4) hxq hb dX8_does_38 (by decide) ?_
  refine lv_iload_n hxq hb dX8_does_39 rfl (lv_at hl 4 rfl) ?_
  refine lv_imul hxq hb dX8_does_40 ?_
  refine m_iald hxq hb hK hP 2 (k := 4 * i) rfl (m_mul rfl rfl) (by omega) (Nat.le_of_ble_eq_true rfl) dX8_does_41 ?_
  refine lv_t0 e0 ?_
  refine lv_tableIn (off := 78) (tgt := 120) hxq hb dX8_does_42 (by decide) (by decide) (by decide) (by decide) ?_
  refine lv_aload_n hxq hb dX8_does_120 rfl (lv_at hl 3 rfl) ?_
  refine lv_iload_n hxq hb dX8_does_121 rfl (lv_at hl 2 rfl) ?_
  refine lv_iload_n hxq hb dX8_does_122 rfl (lv_at hl 1 rfl) ?_
  refine lv_iload hxq hb dX8_does_123 (lv_at hl 0 rfl) ?_
  refine c_wcVi (ws' := [(am, .inr (12, [.ref aS, .ref aBf, .ref aAs, .ref aSv, .int iS, .ref aPa, .int (nI K), .int (mcT (filF (nB σ) (vB σ) a b c)), .ref aOu, .int (nI OM), .ref aTx, .int (nI LN), .int (nI x.1), .int (bI x.2), .int ea, .int fa, .ref aCo, .int (nI CM)])), (aS, .inl (cy 2, 89, .inl (encT (nB σ) (vB σ) (hB σ) (pB σ) (mB σ) (nD σ) (bD σ) (lD σ) (uD σ) (qD σ) (wD σ) (nE σ) (kE σ) (bE σ) (lE σ) (tT σ) (dT σ) (aT σ) (rT σ) (hT σ) (xT σ)))), (aCo, .inl (cy 2, 240, .inl g))]) S9 (c_X8_doRunTap_no l G cy am aS aBf aAs aSv aPa aOu aTx aCo K OM LN x.1 CM iS th (bI x.2) ea fa (nB σ) (vB σ) (hB σ) (pB σ) (mB σ) (nD σ) (bD σ) (lD σ) (uD σ) (qD σ) (wD σ) (nE σ) (kE σ) (bE σ) (lE σ) (tT σ) (dT σ) (aT σ) (rT σ) (hT σ) (xT σ) a b c ho.1 ho.2.1 ho.2.2.1 ho.d ho.w01 hF) (cwV 3 hts gX8_does_X8_doRunTap rfl rfl rfl (by decide +kernel) ⟨Nat.le_of_ble_eq_true rfl, Nat.le_of_ble_eq_true rfl⟩) PB.blind (va_recv hK.1 hP (ci := 12) (q0 := 0) rfl rfl) (PB.at hK (m_Ppart hP [0, 1] rfl)) hP hD hS [0, 1] rfl rfl m_f2 rfl rfl hl.1 rfl (Nat.le_of_ble_eq_true rfl) ⟨Nat.zero_le _, Nat.zero_le _⟩ dX8_does_125 (fun H locs hP hD hS => ?_)
  refine lv_istore (lv' := [(5, .int 0), (4, .int c), (3, .int b), (2, .int a), (0, .ref am), (1, .int (nI i))]) hxq hb dX8_does_128 hl (by decide) rfl (fun ls hl => ?_)
  refine lv_goto (tgt := 215) hxq hb dX8_does_130 (by decide) ?_
  exact wc_vret hxq hb hr hlocks hP hS dX8_does_215

set_option maxRecDepth 100000 in
set_option maxHeartbeats 1000000 in
theorem c_X8_does_pour_ok (l : Launch) (G : va_G) (cy : Nat → ClassId) (am aS aBf aAs aSv aPa aOu aTx aCo K OM LN CM : Nat) (iS th ea fa : Int32) (σ : St) (x : Lx) (g : Nat → Int32) (i : Nat) (a b c : Int32) (ho : Ok σ) (hi : i < 60) (e0 : g (4 * i) = 111) (e1 : g (4 * i + 1) = a) (e2 : g (4 * i + 2) = b) (e3 : g (4 * i + 3) = c) (hb9 : a = nI (bx a)) (hq9 : ¬ c = -1) (hwt : wet (vB σ) (bx a) = true) (hF : traF (nB σ) (vB σ) a b c = 0) : WC l yX8_does wsX8_does { frames := 6, cells := 0, slots := 0, locals := 136 } G (PB G cy [(am, .inr (12, [.ref aS, .ref aBf, .ref aAs, .ref aSv, .int iS, .ref aPa, .int (nI K), .int th, .ref aOu, .int (nI OM), .ref aTx, .int (nI LN), .int (nI x.1), .int (bI x.2), .int ea, .int fa, .ref aCo, .int (nI CM)])), (aS, .inl (cy 2, 89, .inl (encS σ))), (aCo, .inl (cy 2, 240, .inl g))]) [.ref am, .int (nI i)] [(am, .inr (12, [.ref aS, .ref aBf, .ref aAs, .ref aSv, .int iS, .ref aPa, .int (nI K), .int th, .ref aOu, .int (nI OM), .ref aTx, .int (nI LN), .int (nI x.1), .int (bI x.2), .int ea, .int fa, .ref aCo, .int (nI CM)])), (aS, .inl (cy 2, 89, .inl (encS σ))), (aCo, .inl (cy 2, 240, .inl g))] [(am, .inr (12, [.ref aS, .ref aBf, .ref aAs, .ref aSv, .int iS, .ref aPa, .int (nI K), .int th, .ref aOu, .int (nI OM), .ref aTx, .int (nI LN), .int (nI x.1), .int (bI x.2), .int ea, .int fa, .ref aCo, .int (nI CM)])), (aS, .inl (cy 2, 89, .inl (encS (traS (bx a) (bx b) c σ)))), (aCo, .inl (cy 2, 240, .inl g))] (none) := by
  refine WC.ofW (cc := cX8_does) (maxL := 6) (ret := none) (by decide) rfl (Nat.le_of_ble_eq_true rfl) ?_
  intro p e s m below meth cq S9 hr hlocks hPB hD hS ls hl
  obtain ⟨hxq, hb, hml, hown, hts⟩ := id S9
  obtain ⟨hP, hK⟩ := hPB
  have hl : lv_has ls 6 [(0, .ref am), (1, .int (nI i))] := hl
  have hP : va_P G vwCl [(am, .inr (12, [.ref aS, .ref aBf, .ref aAs, .ref aSv, .int iS, .ref aPa, .int (nI K), .int th, .ref aOu, .int (nI OM), .ref aTx, .int (nI LN), .int (nI x.1), .int (bI x.2), .int ea, .int fa, .ref aCo, .int (nI CM)])), (aS, .inl (cy 2, 89, .inl (encT (nB σ) (vB σ) (hB σ) (pB σ) (mB σ) (nD σ) (bD σ) (lD σ) (uD σ) (qD σ) (wD σ) (nE σ) (kE σ) (bE σ) (lE σ) (tT σ) (dT σ) (aT σ) (rT σ) (hT σ) (xT σ)))), (aCo, .inl (cy 2, 240, .inl g))] s.heap := hP
  have hD0 := hD
  have hD : va_D (wA [(am, .inr (12, [.ref aS, .ref aBf, .ref aAs, .ref aSv, .int iS, .ref aPa, .int (nI K), .int th, .ref aOu, .int (nI OM), .ref aTx, .int (nI LN), .int (nI x.1), .int (bI x.2), .int ea, .int fa, .ref aCo, .int (nI CM)])), (aS, .inl (cy 2, 89, .inl (encS σ))), (aCo, .inl (cy 2, 240, .inl g))]) [(am, .inr (12, [.ref aS, .ref aBf, .ref aAs, .ref aSv, .int iS, .ref aPa, .int (nI K), .int th, .ref aOu, .int (nI OM), .ref aTx, .int (nI LN), .int (nI x.1), .int (bI x.2), .int ea, .int fa, .ref aCo, .int (nI CM)])), (aS, .inl (cy 2, 89, .inl (encT (nB σ) (vB σ) (hB σ) (pB σ) (mB σ) (nD σ) (bD σ) (lD σ) (uD σ) (qD σ) (wD σ) (nE σ) (kE σ) (bE σ) (lE σ) (tT σ) (dT σ) (aT σ) (rT σ) (hT σ) (xT σ)))), (aCo, .inl (cy 2, 240, .inl g))] := hD
  have hi12 : ∀ w ∈ wsX80, w ∈ wsX8_does := by decide +kernel
  have hf39 := hts (.fieldLink RX8 39 "BathLeagueModel" "commands" "[I") (by decide +kernel)
  have hN0 := ho.1
  have hM0 := ho.2.1
  have hvz : ¬ vB σ (bx a) = 0 := m_nz (m_wet hwt)
  refine lv_aload_n hxq hb dX8_does_0 rfl (lv_at hl 0 rfl) ?_
  refine va_get (D := G) (ci := 12) (v := .ref aCo) (C := RX8) (T := TX8) (N := 18) hxq hb hts hi12 hown hK.1 hP 0 rfl rfl 16 (by decide) hf39 (fun _ h9 => h9) rfl dX8_does_1 ?_
  refine lv_iconst (v := 4) hxq hb dX8_does_4 (by decide) ?_
  refine lv_iload_n hxq hb dX8_does_5 rfl (lv_at hl 1 rfl) ?_
  refine lv_imul hxq hb dX8_does_6 ?_
  refine lv_iconst (v := 1) hxq hb dX8_does_7 (by decide) ?_
  refine lv_iadd hxq hb dX8_does_8 ?_
  refine m_iald hxq hb hK hP 2 (k := (4 * i) + 1) rfl (m_add (m_mul rfl rfl) rfl) (by omega) (Nat.le_of_ble_eq_true rfl) dX8_does_9 ?_
  refine lv_t0 (show g ((4 * i) + 1) = a from e1) ?_
  refine lv_istore_n (lv' := [(2, .int a), (0, .ref am), (1, .int (nI i))]) hxq hb dX8_does_10 rfl hl (by decide) rfl (fun ls hl => ?_)
  refine lv_aload_n hxq hb dX8_does_11 rfl (lv_at hl 1 rfl) ?_
  refine va_get (D := G) (ci := 12) (v := .ref aCo) (C := RX8) (T := TX8) (N := 18) hxq hb hts hi12 hown hK.1 hP 0 rfl rfl 16 (by decide) hf39 (fun _ h9 => h9) rfl dX8_does_12 ?_
  refine lv_iconst (v := 4) hxq hb dX8_does_15 (by decide) ?_
  refine lv_iload_n hxq hb dX8_does_16 rfl (lv_at hl 2 rfl) ?_
  refine lv_imul hxq hb dX8_does_17 ?_
  refine lv_iconst (v := 2) hxq hb dX8_does_18 (by decide) ?_
  refine lv_iadd hxq hb dX8_does_19 ?_
  refine m_iald hxq hb hK hP 2 (k := (4 * i) + 2) rfl (m_add (m_mul rfl rfl) rfl) (by omega) (Nat.le_of_ble_eq_true rfl) dX8_does_20 ?_
  refine lv_t0 (show g ((4 * i) + 2) = b from e2) ?_
  refine lv_istore_n (lv' := [(3, .int b), (2, .int a), (0, .ref am), (1, .int (nI i))]) hxq hb dX8_does_21 rfl hl (by decide) rfl (fun ls hl => ?_)
  refine lv_aload_n hxq hb dX8_does_22 rfl (lv_at hl 2 rfl) ?_
  refine va_get (D := G) (ci := 12) (v := .ref aCo) (C := RX8) (T := TX8) (N := 18) hxq hb hts hi12 hown hK.1 hP 0 rfl rfl 16 (by decide) hf39 (fun _ h9 => h9) rfl dX8_does_23 ?_
  refine lv_iconst (v := 4) hxq hb dX8_does_26 (by decide) ?_
  refine lv_iload_n hxq hb dX8_does_27 rfl (lv_at hl 3 rfl) ?_
  refine lv_imul hxq hb dX8_does_28 ?_
  refine lv_iconst (v := 3) hxq hb dX8_does_29 (by decide) ?_
  refine lv_iadd hxq hb dX8_does_30 ?_
  refine m_iald hxq hb hK hP 2 (k := (4 * i) + 3) rfl (m_add (m_mul rfl rfl) rfl) (by omega) (Nat.le_of_ble_eq_true rfl) dX8_does_31 ?_
  refine lv_t0 (show g ((4 * i) + 3) = c from e3) ?_
  refine lv_istore (lv' := [(4, .int c), (3, .int b), (2, .int a), (0, .ref am), (1, .int (nI i))]) hxq hb dX8_does_32 hl (by decide) rfl (fun ls hl => ?_)
  refine lv_aload_n hxq hb dX8_does_34 rfl (lv_at hl 3 rfl) ?_
  refine va_get (D := G) (ci := 12) (v := .ref aCo) (C := RX8) (T := TX8) (N := 18) hxq hb hts hi12 hown hK.1 hP 0 rfl rfl 16 (by decide) hf39 (fun _ h9 => h9) rfl dX8_does_35 ?_
  refine lv_iconst (v := 4) hxq hb dX8_does_38 (by decide) ?_
  refine lv_iload_n hxq hb dX8_does_39 rfl (lv_at hl 4 rfl) ?_
  refine lv_imul hxq hb dX8_does_40 ?_
  refine m_iald hxq hb hK hP 2 (k := 4 * i) rfl (m_mul rfl rfl) (by omega) (Nat.le_of_ble_eq_true rfl) dX8_does_41 ?_
  refine lv_t0 e0 ?_
  refine lv_tableIn (off := 101) (tgt := 143) hxq hb dX8_does_42 (by decide) (by decide) (by decide) (by decide) ?_
  refine lv_aload_n hxq hb dX8_does_143 rfl (lv_at hl 3 rfl) ?_
  refine lv_iload_n hxq hb dX8_does_144 rfl (lv_at hl 2 rfl) ?_
  refine lv_iload_n hxq hb dX8_does_145 rfl (lv_at hl 1 rfl) ?_
  refine lv_iload hxq hb dX8_does_146 (lv_at hl 0 rfl) ?_
  refine c_wcVi (ws' := [(am, .inr (12, [.ref aS, .ref aBf, .ref aAs, .ref aSv, .int iS, .ref aPa, .int (nI K), .int th, .ref aOu, .int (nI OM), .ref aTx, .int (nI LN), .int (nI x.1), .int (bI x.2), .int ea, .int fa, .ref aCo, .int (nI CM)])), (aS, .inl (cy 2, 89, .inl (encT (nB σ) (upd (upd (vB σ) (bx a) ((vB σ) (bx a) - c)) (bx b) (upd (vB σ) (bx a) ((vB σ) (bx a) - c) (bx b) + c)) (upd (upd (hB σ) (bx a) ((hB σ) (bx a) - (hB σ) (bx a) * c / (vB σ) (bx a))) (bx b) (upd (hB σ) (bx a) ((hB σ) (bx a) - (hB σ) (bx a) * c / (vB σ) (bx a)) (bx b) + (hB σ) (bx a) * c / (vB σ) (bx a))) (pB σ) (mB σ) (nD σ) (bD σ) (lD σ) (uD σ) (obsQ (plz (upd (upd (vB σ) (bx a) ((vB σ) (bx a) - c)) (bx b) (upd (vB σ) (bx a) ((vB σ) (bx a) - c) (bx b) + c)) (upd (upd (hB σ) (bx a) ((hB σ) (bx a) - (hB σ) (bx a) * c / (vB σ) (bx a))) (bx b) (upd (hB σ) (bx a) ((hB σ) (bx a) - (hB σ) (bx a) * c / (vB σ) (bx a)) (bx b) + (hB σ) (bx a) * c / (vB σ) (bx a))) (bD σ) (lD σ) (uD σ)) (qD σ) (wD σ) (nD σ)) (obsW (plz (upd (upd (vB σ) (bx a) ((vB σ) (bx a) - c)) (bx b) (upd (vB σ) (bx a) ((vB σ) (bx a) - c) (bx b) + c)) (upd (upd (hB σ) (bx a) ((hB σ) (bx a) - (hB σ) (bx a) * c / (vB σ) (bx a))) (bx b) (upd (hB σ) (bx a) ((hB σ) (bx a) - (hB σ) (bx a) * c / (vB σ) (bx a)) (bx b) + (hB σ) (bx a) * c / (vB σ) (bx a))) (bD σ) (lD σ) (uD σ)) (wD σ) (nD σ)) (evc (nE σ)) (psh (kE σ) 112) (psh (bE σ) a) (psh (lE σ) c) (tT σ) (dT σ) (aT σ) (rT σ) (hT σ) (xT σ)))), (aCo, .inl (cy 2, 240, .inl g))]) S9 (c_X8_doPour_ok l G cy am aS aBf aAs aSv aPa aOu aTx aCo K OM LN x.1 CM iS th (bI x.2) ea fa (nB σ) (vB σ) (hB σ) (pB σ) (mB σ) (nD σ) (bD σ) (lD σ) (uD σ) (qD σ) (wD σ) (nE σ) (kE σ) (bE σ) (lE σ) (tT σ) (dT σ) (aT σ) (rT σ) (hT σ) (xT σ) a b c ho.1 ho.2.1 ho.2.2.1 ho.d ho.w01 hq9 hvz hF) (cwV 3 hts gX8_does_X8_doPour rfl rfl rfl (by decide +kernel) ⟨Nat.le_of_ble_eq_true rfl, Nat.le_of_ble_eq_true rfl⟩) PB.blind (va_recv hK.1 hP (ci := 12) (q0 := 0) rfl rfl) (PB.at hK (m_Ppart hP [0, 1] rfl)) hP hD hS [0, 1] rfl rfl m_f2 rfl rfl hl.1 rfl (Nat.le_of_ble_eq_true rfl) ⟨Nat.zero_le _, Nat.zero_le _⟩ dX8_does_148 (fun H locs hP hD hS => ?_)
  have hP : va_P G vwCl [(am, .inr (12, [.ref aS, .ref aBf, .ref aAs, .ref aSv, .int iS, .ref aPa, .int (nI K), .int th, .ref aOu, .int (nI OM), .ref aTx, .int (nI LN), .int (nI x.1), .int (bI x.2), .int ea, .int fa, .ref aCo, .int (nI CM)])), (aS, .inl (cy 2, 89, .inl (encS (traS (bx a) (bx b) c σ)))), (aCo, .inl (cy 2, 240, .inl g))] H := by rw [show traS (bx a) (bx b) c σ = (((nB σ), (upd (upd (vB σ) (bx a) ((vB σ) (bx a) - c)) (bx b) (upd (vB σ) (bx a) ((vB σ) (bx a) - c) (bx b) + c)), (upd (upd (hB σ) (bx a) ((hB σ) (bx a) - (hB σ) (bx a) * c / (vB σ) (bx a))) (bx b) (upd (hB σ) (bx a) ((hB σ) (bx a) - (hB σ) (bx a) * c / (vB σ) (bx a)) (bx b) + (hB σ) (bx a) * c / (vB σ) (bx a))), (pB σ), (mB σ)), ((nD σ), (bD σ), (lD σ), (uD σ), (obsQ (plz (upd (upd (vB σ) (bx a) ((vB σ) (bx a) - c)) (bx b) (upd (vB σ) (bx a) ((vB σ) (bx a) - c) (bx b) + c)) (upd (upd (hB σ) (bx a) ((hB σ) (bx a) - (hB σ) (bx a) * c / (vB σ) (bx a))) (bx b) (upd (hB σ) (bx a) ((hB σ) (bx a) - (hB σ) (bx a) * c / (vB σ) (bx a)) (bx b) + (hB σ) (bx a) * c / (vB σ) (bx a))) (bD σ) (lD σ) (uD σ)) (qD σ) (wD σ) (nD σ)), (obsW (plz (upd (upd (vB σ) (bx a) ((vB σ) (bx a) - c)) (bx b) (upd (vB σ) (bx a) ((vB σ) (bx a) - c) (bx b) + c)) (upd (upd (hB σ) (bx a) ((hB σ) (bx a) - (hB σ) (bx a) * c / (vB σ) (bx a))) (bx b) (upd (hB σ) (bx a) ((hB σ) (bx a) - (hB σ) (bx a) * c / (vB σ) (bx a)) (bx b) + (hB σ) (bx a) * c / (vB σ) (bx a))) (bD σ) (lD σ) (uD σ)) (wD σ) (nD σ))), ((evc (nE σ)), (psh (kE σ) 112), (psh (bE σ) a), (psh (lE σ) c)), ((tT σ), (dT σ), (aT σ), (rT σ), (hT σ), (xT σ))) from by unfold traS; rw [heatOf, if_pos hwt]; unfold ntS movS; rw [← hb9]; rfl, encS_mk]; exact hP
  have hD : va_D (wA [(am, .inr (12, [.ref aS, .ref aBf, .ref aAs, .ref aSv, .int iS, .ref aPa, .int (nI K), .int th, .ref aOu, .int (nI OM), .ref aTx, .int (nI LN), .int (nI x.1), .int (bI x.2), .int ea, .int fa, .ref aCo, .int (nI CM)])), (aS, .inl (cy 2, 89, .inl (encS σ))), (aCo, .inl (cy 2, 240, .inl g))]) [(am, .inr (12, [.ref aS, .ref aBf, .ref aAs, .ref aSv, .int iS, .ref aPa, .int (nI K), .int th, .ref aOu, .int (nI OM), .ref aTx, .int (nI LN), .int (nI x.1), .int (bI x.2), .int ea, .int fa, .ref aCo, .int (nI CM)])), (aS, .inl (cy 2, 89, .inl (encS (traS (bx a) (bx b) c σ)))), (aCo, .inl (cy 2, 240, .inl g))] := m_D3 hD0
  have hP : va_P G vwCl [(am, .inr (12, [.ref aS, .ref aBf, .ref aAs, .ref aSv, .int iS, .ref aPa, .int (nI K), .int th, .ref aOu, .int (nI OM), .ref aTx, .int (nI LN), .int (nI x.1), .int (bI x.2), .int ea, .int fa, .ref aCo, .int (nI CM)])), (aS, .inl (cy 2, 89, .inl (encT (nB (traS (bx a) (bx b) c σ)) (vB (traS (bx a) (bx b) c σ)) (hB (traS (bx a) (bx b) c σ)) (pB (traS (bx a) (bx b) c σ)) (mB (traS (bx a) (bx b) c σ)) (nD (traS (bx a) (bx b) c σ)) (bD (traS (bx a) (bx b) c σ)) (lD (traS (bx a) (bx b) c σ)) (uD (traS (bx a) (bx b) c σ)) (qD (traS (bx a) (bx b) c σ)) (wD (traS (bx a) (bx b) c σ)) (nE (traS (bx a) (bx b) c σ)) (kE (traS (bx a) (bx b) c σ)) (bE (traS (bx a) (bx b) c σ)) (lE (traS (bx a) (bx b) c σ)) (tT (traS (bx a) (bx b) c σ)) (dT (traS (bx a) (bx b) c σ)) (aT (traS (bx a) (bx b) c σ)) (rT (traS (bx a) (bx b) c σ)) (hT (traS (bx a) (bx b) c σ)) (xT (traS (bx a) (bx b) c σ))))), (aCo, .inl (cy 2, 240, .inl g))] H := hP
  have hD : va_D (wA [(am, .inr (12, [.ref aS, .ref aBf, .ref aAs, .ref aSv, .int iS, .ref aPa, .int (nI K), .int th, .ref aOu, .int (nI OM), .ref aTx, .int (nI LN), .int (nI x.1), .int (bI x.2), .int ea, .int fa, .ref aCo, .int (nI CM)])), (aS, .inl (cy 2, 89, .inl (encS σ))), (aCo, .inl (cy 2, 240, .inl g))]) [(am, .inr (12, [.ref aS, .ref aBf, .ref aAs, .ref aSv, .int iS, .ref aPa, .int (nI K), .int th, .ref aOu, .int (nI OM), .ref aTx, .int (nI LN), .int (nI x.1), .int (bI x.2), .int ea, .int fa, .ref aCo, .int (nI CM)])), (aS, .inl (cy 2, 89, .inl (encT (nB (traS (bx a) (bx b) c σ)) (vB (traS (bx a) (bx b) c σ)) (hB (traS (bx a) (bx b) c σ)) (pB (traS (bx a) (bx b) c σ)) (mB (traS (bx a) (bx b) c σ)) (nD (traS (bx a) (bx b) c σ)) (bD (traS (bx a) (bx b) c σ)) (lD (traS (bx a) (bx b) c σ)) (uD (traS (bx a) (bx b) c σ)) (qD (traS (bx a) (bx b) c σ)) (wD (traS (bx a) (bx b) c σ)) (nE (traS (bx a) (bx b) c σ)) (kE (traS (bx a) (bx b) c σ)) (bE (traS (bx a) (bx b) c σ)) (lE (traS (bx a) (bx b) c σ)) (tT (traS (bx a) (bx b) c σ)) (dT (traS (bx a) (bx b) c σ)) (aT (traS (bx a) (bx b) c σ)) (rT (traS (bx a) (bx b) c σ)) (hT (traS (bx a) (bx b) c σ)) (xT (traS (bx a) (bx b) c σ))))), (aCo, .inl (cy 2, 240, .inl g))] := hD
  refine lv_istore (lv' := [(5, .int ((hB σ) (bx a) * c / (vB σ) (bx a))), (4, .int c), (3, .int b), (2, .int a), (0, .ref am), (1, .int (nI i))]) hxq hb dX8_does_151 hl (by decide) rfl (fun ls hl => ?_)
  refine lv_goto (tgt := 215) hxq hb dX8_does_153 (by decide) ?_
  exact wc_vret hxq hb hr hlocks hP hS dX8_does_215

set_option maxRecDepth 100000 in
set_option maxHeartbeats 1000000 in
theorem c_X8_does_pour_no (l : Launch) (G : va_G) (cy : Nat → ClassId) (am aS aBf aAs aSv aPa aOu aTx aCo K OM LN CM : Nat) (iS th ea fa : Int32) (σ : St) (x : Lx) (g : Nat → Int32) (i : Nat) (a b c : Int32) (ho : Ok σ) (hi : i < 60) (e0 : g (4 * i) = 111) (e1 : g (4 * i + 1) = a) (e2 : g (4 * i + 2) = b) (e3 : g (4 * i + 3) = c) (hF : ¬ traF (nB σ) (vB σ) a b c = 0) : WC l yX8_does wsX8_does { frames := 6, cells := 0, slots := 0, locals := 136 } G (PB G cy [(am, .inr (12, [.ref aS, .ref aBf, .ref aAs, .ref aSv, .int iS, .ref aPa, .int (nI K), .int th, .ref aOu, .int (nI OM), .ref aTx, .int (nI LN), .int (nI x.1), .int (bI x.2), .int ea, .int fa, .ref aCo, .int (nI CM)])), (aS, .inl (cy 2, 89, .inl (encS σ))), (aCo, .inl (cy 2, 240, .inl g))]) [.ref am, .int (nI i)] [(am, .inr (12, [.ref aS, .ref aBf, .ref aAs, .ref aSv, .int iS, .ref aPa, .int (nI K), .int th, .ref aOu, .int (nI OM), .ref aTx, .int (nI LN), .int (nI x.1), .int (bI x.2), .int ea, .int fa, .ref aCo, .int (nI CM)])), (aS, .inl (cy 2, 89, .inl (encS σ))), (aCo, .inl (cy 2, 240, .inl g))] [(am, .inr (12, [.ref aS, .ref aBf, .ref aAs, .ref aSv, .int iS, .ref aPa, .int (nI K), .int (mcP (traF (nB σ) (vB σ) a b c)), .ref aOu, .int (nI OM), .ref aTx, .int (nI LN), .int (nI x.1), .int (bI x.2), .int ea, .int fa, .ref aCo, .int (nI CM)])), (aS, .inl (cy 2, 89, .inl (encS σ))), (aCo, .inl (cy 2, 240, .inl g))] (none) := by
  refine WC.ofW (cc := cX8_does) (maxL := 6) (ret := none) (by decide) rfl (Nat.le_of_ble_eq_true rfl) ?_
  intro p e s m below meth cq S9 hr hlocks hPB hD hS ls hl
  obtain ⟨hxq, hb, hml, hown, hts⟩ := id S9
  obtain ⟨hP, hK⟩ := hPB
  have hl : lv_has ls 6 [(0, .ref am), (1, .int (nI i))] := hl
  have hP : va_P G vwCl [(am, .inr (12, [.ref aS, .ref aBf, .ref aAs, .ref aSv, .int iS, .ref aPa, .int (nI K), .int th, .ref aOu, .int (nI OM), .ref aTx, .int (nI LN), .int (nI x.1), .int (bI x.2), .int ea, .int fa, .ref aCo, .int (nI CM)])), (aS, .inl (cy 2, 89, .inl (encT (nB σ) (vB σ) (hB σ) (pB σ) (mB σ) (nD σ) (bD σ) (lD σ) (uD σ) (qD σ) (wD σ) (nE σ) (kE σ) (bE σ) (lE σ) (tT σ) (dT σ) (aT σ) (rT σ) (hT σ) (xT σ)))), (aCo, .inl (cy 2, 240, .inl g))] s.heap := hP
  have hD0 := hD
  have hD : va_D (wA [(am, .inr (12, [.ref aS, .ref aBf, .ref aAs, .ref aSv, .int iS, .ref aPa, .int (nI K), .int th, .ref aOu, .int (nI OM), .ref aTx, .int (nI LN), .int (nI x.1), .int (bI x.2), .int ea, .int fa, .ref aCo, .int (nI CM)])), (aS, .inl (cy 2, 89, .inl (encS σ))), (aCo, .inl (cy 2, 240, .inl g))]) [(am, .inr (12, [.ref aS, .ref aBf, .ref aAs, .ref aSv, .int iS, .ref aPa, .int (nI K), .int th, .ref aOu, .int (nI OM), .ref aTx, .int (nI LN), .int (nI x.1), .int (bI x.2), .int ea, .int fa, .ref aCo, .int (nI CM)])), (aS, .inl (cy 2, 89, .inl (encT (nB σ) (vB σ) (hB σ) (pB σ) (mB σ) (nD σ) (bD σ) (lD σ) (uD σ) (qD σ) (wD σ) (nE σ) (kE σ) (bE σ) (lE σ) (tT σ) (dT σ) (aT σ) (rT σ) (hT σ) (xT σ)))), (aCo, .inl (cy 2, 240, .inl g))] := hD
  have hi12 : ∀ w ∈ wsX80, w ∈ wsX8_does := by decide +kernel
  have hf39 := hts (.fieldLink RX8 39 "BathLeagueModel" "commands" "[I") (by decide +kernel)
  have hN0 := ho.1
  have hM0 := ho.2.1
  refine lv_aload_n hxq hb dX8_does_0 rfl (lv_at hl 0 rfl) ?_
  refine va_get (D := G) (ci := 12) (v := .ref aCo) (C := RX8) (T := TX8) (N := 18) hxq hb hts hi12 hown hK.1 hP 0 rfl rfl 16 (by decide) hf39 (fun _ h9 => h9) rfl dX8_does_1 ?_
  refine lv_iconst (v := 4) hxq hb dX8_does_4 (by decide) ?_
  refine lv_iload_n hxq hb dX8_does_5 rfl (lv_at hl 1 rfl) ?_
  refine lv_imul hxq hb dX8_does_6 ?_
  refine lv_iconst (v := 1) hxq hb dX8_does_7 (by decide) ?_
  refine lv_iadd hxq hb dX8_does_8 ?_
  refine m_iald hxq hb hK hP 2 (k := (4 * i) + 1) rfl (m_add (m_mul rfl rfl) rfl) (by omega) (Nat.le_of_ble_eq_true rfl) dX8_does_9 ?_
  refine lv_t0 (show g ((4 * i) + 1) = a from e1) ?_
  refine lv_istore_n (lv' := [(2, .int a), (0, .ref am), (1, .int (nI i))]) hxq hb dX8_does_10 rfl hl (by decide) rfl (fun ls hl => ?_)
  refine lv_aload_n hxq hb dX8_does_11 rfl (lv_at hl 1 rfl) ?_
  refine va_get (D := G) (ci := 12) (v := .ref aCo) (C := RX8) (T := TX8) (N := 18) hxq hb hts hi12 hown hK.1 hP 0 rfl rfl 16 (by decide) hf39 (fun _ h9 => h9) rfl dX8_does_12 ?_
  refine lv_iconst (v := 4) hxq hb dX8_does_15 (by decide) ?_
  refine lv_iload_n hxq hb dX8_does_16 rfl (lv_at hl 2 rfl) ?_
  refine lv_imul hxq hb dX8_does_17 ?_
  refine lv_iconst (v := 2) hxq hb dX8_does_18 (by decide) ?_
  refine lv_iadd hxq hb dX8_does_19 ?_
  refine m_iald hxq hb hK hP 2 (k := (4 * i) + 2) rfl (m_add (m_mul rfl rfl) rfl) (by omega) (Nat.le_of_ble_eq_true rfl) dX8_does_20 ?_
  refine lv_t0 (show g ((4 * i) + 2) = b from e2) ?_
  refine lv_istore_n (lv' := [(3, .int b), (2, .int a), (0, .ref am), (1, .int (nI i))]) hxq hb dX8_does_21 rfl hl (by decide) rfl (fun ls hl => ?_)
  refine lv_aload_n hxq hb dX8_does_22 rfl (lv_at hl 2 rfl) ?_
  refine va_get (D := G) (ci := 12) (v := .ref aCo) (C := RX8) (T := TX8) (N := 18) hxq hb hts hi12 hown hK.1 hP 0 rfl rfl 16 (by decide) hf39 (fun _ h9 => h9) rfl dX8_does_23 ?_
  refine lv_iconst (v := 4) hxq hb dX8_does_26 (by decide) ?_
  refine lv_iload_n hxq hb dX8_does_27 rfl (lv_at hl 3 rfl) ?_
  refine lv_imul hxq hb dX8_does_28 ?_
  refine lv_iconst (v := 3) hxq hb dX8_does_29 (by decide) ?_
  refine lv_iadd hxq hb dX8_does_30 ?_
  refine m_iald hxq hb hK hP 2 (k := (4 * i) + 3) rfl (m_add (m_mul rfl rfl) rfl) (by omega) (Nat.le_of_ble_eq_true rfl) dX8_does_31 ?_
  refine lv_t0 (show g ((4 * i) + 3) = c from e3) ?_
  refine lv_istore (lv' := [(4, .int c), (3, .int b), (2, .int a), (0, .ref am), (1, .int (nI i))]) hxq hb dX8_does_32 hl (by decide) rfl (fun ls hl => ?_)
  refine lv_aload_n hxq hb dX8_does_34 rfl (lv_at hl 3 rfl) ?_
  refine va_get (D := G) (ci := 12) (v := .ref aCo) (C := RX8) (T := TX8) (N := 18) hxq hb hts hi12 hown hK.1 hP 0 rfl rfl 16 (by decide) hf39 (fun _ h9 => h9) rfl dX8_does_35 ?_
  refine lv_iconst (v := 4) hxq hb dX8_does_38 (by decide) ?_
  refine lv_iload_n hxq hb dX8_does_39 rfl (lv_at hl 4 rfl) ?_
  refine lv_imul hxq hb dX8_does_40 ?_
  refine m_iald hxq hb hK hP 2 (k := 4 * i) rfl (m_mul rfl rfl) (by omega) (Nat.le_of_ble_eq_true rfl) dX8_does_41 ?_
  refine lv_t0 e0 ?_
  refine lv_tableIn (off := 101) (tgt := 143) hxq hb dX8_does_42 (by decide) (by decide) (by decide) (by decide) ?_
  refine lv_aload_n hxq hb dX8_does_143 rfl (lv_at hl 3 rfl) ?_
  refine lv_iload_n hxq hb dX8_does_144 rfl (lv_at hl 2 rfl) ?_
  refine lv_iload_n hxq hb dX8_does_145 rfl (lv_at hl 1 rfl) ?_
  refine lv_iload hxq hb dX8_does_146 (lv_at hl 0 rfl) ?_
  refine c_wcVi (ws' := [(am, .inr (12, [.ref aS, .ref aBf, .ref aAs, .ref aSv, .int iS, .ref aPa, .int (nI K), .int (mcP (traF (nB σ) (vB σ) a b c)), .ref aOu, .int (nI OM), .ref aTx, .int (nI LN), .int (nI x.1), .int (bI x.2), .int ea, .int fa, .ref aCo, .int (nI CM)])), (aS, .inl (cy 2, 89, .inl (encT (nB σ) (vB σ) (hB σ) (pB σ) (mB σ) (nD σ) (bD σ) (lD σ) (uD σ) (qD σ) (wD σ) (nE σ) (kE σ) (bE σ) (lE σ) (tT σ) (dT σ) (aT σ) (rT σ) (hT σ) (xT σ)))), (aCo, .inl (cy 2, 240, .inl g))]) S9 (c_X8_doPour_no l G cy am aS aBf aAs aSv aPa aOu aTx aCo K OM LN x.1 CM iS th (bI x.2) ea fa (nB σ) (vB σ) (hB σ) (pB σ) (mB σ) (nD σ) (bD σ) (lD σ) (uD σ) (qD σ) (wD σ) (nE σ) (kE σ) (bE σ) (lE σ) (tT σ) (dT σ) (aT σ) (rT σ) (hT σ) (xT σ) a b c ho.1 ho.2.1 ho.2.2.1 ho.d ho.w01 hF) (cwV 3 hts gX8_does_X8_doPour rfl rfl rfl (by decide +kernel) ⟨Nat.le_of_ble_eq_true rfl, Nat.le_of_ble_eq_true rfl⟩) PB.blind (va_recv hK.1 hP (ci := 12) (q0 := 0) rfl rfl) (PB.at hK (m_Ppart hP [0, 1] rfl)) hP hD hS [0, 1] rfl rfl m_f2 rfl rfl hl.1 rfl (Nat.le_of_ble_eq_true rfl) ⟨Nat.zero_le _, Nat.zero_le _⟩ dX8_does_148 (fun H locs hP hD hS => ?_)
  refine lv_istore (lv' := [(5, .int 0), (4, .int c), (3, .int b), (2, .int a), (0, .ref am), (1, .int (nI i))]) hxq hb dX8_does_151 hl (by decide) rfl (fun ls hl => ?_)
  refine lv_goto (tgt := 215) hxq hb dX8_does_153 (by decide) ?_
  exact wc_vret hxq hb hr hlocks hP hS dX8_does_215

set_option maxRecDepth 100000 in
set_option maxHeartbeats 1000000 in
theorem c_X8_does_duck_ok (l : Launch) (G : va_G) (cy : Nat → ClassId) (am aS aBf aAs aSv aPa aOu aTx aCo K OM LN CM : Nat) (iS th ea fa : Int32) (σ : St) (x : Lx) (g : Nat → Int32) (i : Nat) (a b c : Int32) (ho : Ok σ) (hi : i < 60) (e0 : g (4 * i) = 100) (e1 : g (4 * i + 1) = a) (e2 : g (4 * i + 2) = b) (e3 : g (4 * i + 3) = c) (hdk : dOK a) (hz0 : qD σ (nD σ) = 0) (h6 : nD σ < 6) (hF : dukF (nB σ) (nD σ) a b c = 0) : WC l yX8_does wsX8_does { frames := 6, cells := 0, slots := 0, locals := 136 } G (PB G cy [(am, .inr (12, [.ref aS, .ref aBf, .ref aAs, .ref aSv, .int iS, .ref aPa, .int (nI K), .int th, .ref aOu, .int (nI OM), .ref aTx, .int (nI LN), .int (nI x.1), .int (bI x.2), .int ea, .int fa, .ref aCo, .int (nI CM)])), (aS, .inl (cy 2, 89, .inl (encS σ))), (aCo, .inl (cy 2, 240, .inl g))]) [.ref am, .int (nI i)] [(am, .inr (12, [.ref aS, .ref aBf, .ref aAs, .ref aSv, .int iS, .ref aPa, .int (nI K), .int th, .ref aOu, .int (nI OM), .ref aTx, .int (nI LN), .int (nI x.1), .int (bI x.2), .int ea, .int fa, .ref aCo, .int (nI CM)])), (aS, .inl (cy 2, 89, .inl (encS σ))), (aCo, .inl (cy 2, 240, .inl g))] [(am, .inr (12, [.ref aS, .ref aBf, .ref aAs, .ref aSv, .int iS, .ref aPa, .int (nI K), .int th, .ref aOu, .int (nI OM), .ref aTx, .int (nI LN), .int (nI x.1), .int (bI x.2), .int ea, .int fa, .ref aCo, .int (nI CM)])), (aS, .inl (cy 2, 89, .inl (encS (dukS a b c σ)))), (aCo, .inl (cy 2, 240, .inl g))] (none) := by
  refine WC.ofW (cc := cX8_does) (maxL := 6) (ret := none) (by decide) rfl (Nat.le_of_ble_eq_true rfl) ?_
  intro p e s m below meth cq S9 hr hlocks hPB hD hS ls hl
  obtain ⟨hxq, hb, hml, hown, hts⟩ := id S9
  obtain ⟨hP, hK⟩ := hPB
  have hl : lv_has ls 6 [(0, .ref am), (1, .int (nI i))] := hl
  have hP : va_P G vwCl [(am, .inr (12, [.ref aS, .ref aBf, .ref aAs, .ref aSv, .int iS, .ref aPa, .int (nI K), .int th, .ref aOu, .int (nI OM), .ref aTx, .int (nI LN), .int (nI x.1), .int (bI x.2), .int ea, .int fa, .ref aCo, .int (nI CM)])), (aS, .inl (cy 2, 89, .inl (encT (nB σ) (vB σ) (hB σ) (pB σ) (mB σ) (nD σ) (bD σ) (lD σ) (uD σ) (qD σ) (wD σ) (nE σ) (kE σ) (bE σ) (lE σ) (tT σ) (dT σ) (aT σ) (rT σ) (hT σ) (xT σ)))), (aCo, .inl (cy 2, 240, .inl g))] s.heap := hP
  have hD0 := hD
  have hD : va_D (wA [(am, .inr (12, [.ref aS, .ref aBf, .ref aAs, .ref aSv, .int iS, .ref aPa, .int (nI K), .int th, .ref aOu, .int (nI OM), .ref aTx, .int (nI LN), .int (nI x.1), .int (bI x.2), .int ea, .int fa, .ref aCo, .int (nI CM)])), (aS, .inl (cy 2, 89, .inl (encS σ))), (aCo, .inl (cy 2, 240, .inl g))]) [(am, .inr (12, [.ref aS, .ref aBf, .ref aAs, .ref aSv, .int iS, .ref aPa, .int (nI K), .int th, .ref aOu, .int (nI OM), .ref aTx, .int (nI LN), .int (nI x.1), .int (bI x.2), .int ea, .int fa, .ref aCo, .int (nI CM)])), (aS, .inl (cy 2, 89, .inl (encT (nB σ) (vB σ) (hB σ) (pB σ) (mB σ) (nD σ) (bD σ) (lD σ) (uD σ) (qD σ) (wD σ) (nE σ) (kE σ) (bE σ) (lE σ) (tT σ) (dT σ) (aT σ) (rT σ) (hT σ) (xT σ)))), (aCo, .inl (cy 2, 240, .inl g))] := hD
  have hi12 : ∀ w ∈ wsX80, w ∈ wsX8_does := by decide +kernel
  have hf39 := hts (.fieldLink RX8 39 "BathLeagueModel" "commands" "[I") (by decide +kernel)
  have hN0 := ho.1
  have hM0 := ho.2.1
  refine lv_aload_n hxq hb dX8_does_0 rfl (lv_at hl 0 rfl) ?_
  refine va_get (D := G) (ci := 12) (v := .ref aCo) (C := RX8) (T := TX8) (N := 18) hxq hb hts hi12 hown hK.1 hP 0 rfl rfl 16 (by decide) hf39 (fun _ h9 => h9) rfl dX8_does_1 ?_
  refine lv_iconst (v := 4) hxq hb dX8_does_4 (by decide) ?_
  refine lv_iload_n hxq hb dX8_does_5 rfl (lv_at hl 1 rfl) ?_
  refine lv_imul hxq hb dX8_does_6 ?_
  refine lv_iconst (v := 1) hxq hb dX8_does_7 (by decide) ?_
  refine lv_iadd hxq hb dX8_does_8 ?_
  refine m_iald hxq hb hK hP 2 (k := (4 * i) + 1) rfl (m_add (m_mul rfl rfl) rfl) (by omega) (Nat.le_of_ble_eq_true rfl) dX8_does_9 ?_
  refine lv_t0 (show g ((4 * i) + 1) = a from e1) ?_
  refine lv_istore_n (lv' := [(2, .int a), (0, .ref am), (1, .int (nI i))]) hxq hb dX8_does_10 rfl hl (by decide) rfl (fun ls hl => ?_)
  refine lv_aload_n hxq hb dX8_does_11 rfl (lv_at hl 1 rfl) ?_
  refine va_get (D := G) (ci := 12) (v := .ref aCo) (C := RX8) (T := TX8) (N := 18) hxq hb hts hi12 hown hK.1 hP 0 rfl rfl 16 (by decide) hf39 (fun _ h9 => h9) rfl dX8_does_12 ?_
  refine lv_iconst (v := 4) hxq hb dX8_does_15 (by decide) ?_
  refine lv_iload_n hxq hb dX8_does_16 rfl (lv_at hl 2 rfl) ?_
  refine lv_imul hxq hb dX8_does_17 ?_
  refine lv_iconst (v := 2) hxq hb dX8_does_18 (by decide) ?_
  refine lv_iadd hxq hb dX8_does_19 ?_
  refine m_iald hxq hb hK hP 2 (k := (4 * i) + 2) rfl (m_add (m_mul rfl rfl) rfl) (by omega) (Nat.le_of_ble_eq_true rfl) dX8_does_20 ?_
  refine lv_t0 (show g ((4 * i) + 2) = b from e2) ?_
  refine lv_istore_n (lv' := [(3, .int b), (2, .int a), (0, .ref am), (1, .int (nI i))]) hxq hb dX8_does_21 rfl hl (by decide) rfl (fun ls hl => ?_)
  refine lv_aload_n hxq hb dX8_does_22 rfl (lv_at hl 2 rfl) ?_
  refine va_get (D := G) (ci := 12) (v := .ref aCo) (C := RX8) (T := TX8) (N := 18) hxq hb hts hi12 hown hK.1 hP 0 rfl rfl 16 (by decide) hf39 (fun _ h9 => h9) rfl dX8_does_23 ?_
  refine lv_iconst (v := 4) hxq hb dX8_does_26 (by decide) ?_
  refine lv_iload_n hxq hb dX8_does_27 rfl (lv_at hl 3 rfl) ?_
  refine lv_imul hxq hb dX8_does_28 ?_
  refine lv_iconst (v := 3) hxq hb dX8_does_29 (by decide) ?_
  refine lv_iadd hxq hb dX8_does_30 ?_
  refine m_iald hxq hb hK hP 2 (k := (4 * i) + 3) rfl (m_add (m_mul rfl rfl) rfl) (by omega) (Nat.le_of_ble_eq_true rfl) dX8_does_31 ?_
  refine lv_t0 (show g ((4 * i) + 3) = c from e3) ?_
  refine lv_istore (lv' := [(4, .int c), (3, .int b), (2, .int a), (0, .ref am), (1, .int (nI i))]) hxq hb dX8_does_32 hl (by decide) rfl (fun ls hl => ?_)
  refine lv_aload_n hxq hb dX8_does_34 rfl (lv_at hl 3 rfl) ?_
  refine va_get (D := G) (ci := 12) (v := .ref aCo) (C := RX8) (T := TX8) (N := 18) hxq hb hts hi12 hown hK.1 hP 0 rfl rfl 16 (by decide) hf39 (fun _ h9 => h9) rfl dX8_does_35 ?_
  refine lv_iconst (v := 4) hxq hb dX8_does_38 (by decide) ?_
  refine lv_iload_n hxq hb dX8_does_39 rfl (lv_at hl 4 rfl) ?_
  refine lv_imul hxq hb dX8_does_40 ?_
  refine m_iald hxq hb hK hP 2 (k := 4 * i) rfl (m_mul rfl rfl) (by omega) (Nat.le_of_ble_eq_true rfl) dX8_does_41 ?_
  refine lv_t0 e0 ?_
  refine lv_tableIn (off := 134) (tgt := 176) hxq hb dX8_does_42 (by decide) (by decide) (by decide) (by decide) ?_
  refine lv_aload_n hxq hb dX8_does_176 rfl (lv_at hl 3 rfl) ?_
  refine lv_iload_n hxq hb dX8_does_177 rfl (lv_at hl 2 rfl) ?_
  refine lv_iload_n hxq hb dX8_does_178 rfl (lv_at hl 1 rfl) ?_
  refine lv_iload hxq hb dX8_does_179 (lv_at hl 0 rfl) ?_
  refine c_wcVi (ws' := [(am, .inr (12, [.ref aS, .ref aBf, .ref aAs, .ref aSv, .int iS, .ref aPa, .int (nI K), .int th, .ref aOu, .int (nI OM), .ref aTx, .int (nI LN), .int (nI x.1), .int (bI x.2), .int ea, .int fa, .ref aCo, .int (nI CM)])), (aS, .inl (cy 2, 89, .inl (encT (nB σ) (vB σ) (hB σ) (pB σ) (mB σ) ((nD σ) + 1) (upd (bD σ) (nD σ) a) (upd (lD σ) (nD σ) b) (upd (uD σ) (nD σ) c) (upd (qD σ) (nD σ) 0) (upd (wD σ) (nD σ) (if (plz (vB σ) (hB σ) (upd (bD σ) (nD σ) a) (upd (lD σ) (nD σ) b) (upd (uD σ) (nD σ) c) (nD σ) = true) then 1 else 0)) (nE σ) (kE σ) (bE σ) (lE σ) (tT σ) (dT σ) (aT σ) (rT σ) (hT σ) (xT σ)))), (aCo, .inl (cy 2, 240, .inl g))]) S9 (c_X8_doAddDuck_ok l G cy am aS aBf aAs aSv aPa aOu aTx aCo K OM LN x.1 CM iS th (bI x.2) ea fa (nB σ) (vB σ) (hB σ) (pB σ) (mB σ) (nD σ) (bD σ) (lD σ) (uD σ) (qD σ) (wD σ) (nE σ) (kE σ) (bE σ) (lE σ) (tT σ) (dT σ) (aT σ) (rT σ) (hT σ) (xT σ) a b c ho.1 ho.2.1 (ho.w01 _ (by omega)) hdk hF) (cwV 3 hts gX8_does_X8_doAddDuck rfl rfl rfl (by decide +kernel) ⟨Nat.le_of_ble_eq_true rfl, Nat.le_of_ble_eq_true rfl⟩) PB.blind (va_recv hK.1 hP (ci := 12) (q0 := 0) rfl rfl) (PB.at hK (m_Ppart hP [0, 1] rfl)) hP hD hS [0, 1] rfl rfl m_f2 rfl rfl hl.1 rfl (Nat.le_of_ble_eq_true rfl) ⟨Nat.zero_le _, Nat.zero_le _⟩ dX8_does_181 (fun H locs hP hD hS => ?_)
  have hP : va_P G vwCl [(am, .inr (12, [.ref aS, .ref aBf, .ref aAs, .ref aSv, .int iS, .ref aPa, .int (nI K), .int th, .ref aOu, .int (nI OM), .ref aTx, .int (nI LN), .int (nI x.1), .int (bI x.2), .int ea, .int fa, .ref aCo, .int (nI CM)])), (aS, .inl (cy 2, 89, .inl (encS (dukS a b c σ)))), (aCo, .inl (cy 2, 240, .inl g))] H := by rw [show dukS a b c σ = (((nB σ), (vB σ), (hB σ), (pB σ), (mB σ)), (((nD σ) + 1), (upd (bD σ) (nD σ) a), (upd (lD σ) (nD σ) b), (upd (uD σ) (nD σ) c), (upd (qD σ) (nD σ) 0), (upd (wD σ) (nD σ) (if (plz (vB σ) (hB σ) (upd (bD σ) (nD σ) a) (upd (lD σ) (nD σ) b) (upd (uD σ) (nD σ) c) (nD σ) = true) then 1 else 0))), ((nE σ), (kE σ), (bE σ), (lE σ)), ((tT σ), (dT σ), (aT σ), (rT σ), (hT σ), (xT σ))) from by rw [m_updz hz0]; rfl, encS_mk]; exact hP
  have hD : va_D (wA [(am, .inr (12, [.ref aS, .ref aBf, .ref aAs, .ref aSv, .int iS, .ref aPa, .int (nI K), .int th, .ref aOu, .int (nI OM), .ref aTx, .int (nI LN), .int (nI x.1), .int (bI x.2), .int ea, .int fa, .ref aCo, .int (nI CM)])), (aS, .inl (cy 2, 89, .inl (encS σ))), (aCo, .inl (cy 2, 240, .inl g))]) [(am, .inr (12, [.ref aS, .ref aBf, .ref aAs, .ref aSv, .int iS, .ref aPa, .int (nI K), .int th, .ref aOu, .int (nI OM), .ref aTx, .int (nI LN), .int (nI x.1), .int (bI x.2), .int ea, .int fa, .ref aCo, .int (nI CM)])), (aS, .inl (cy 2, 89, .inl (encS (dukS a b c σ)))), (aCo, .inl (cy 2, 240, .inl g))] := m_D3 hD0
  have hP : va_P G vwCl [(am, .inr (12, [.ref aS, .ref aBf, .ref aAs, .ref aSv, .int iS, .ref aPa, .int (nI K), .int th, .ref aOu, .int (nI OM), .ref aTx, .int (nI LN), .int (nI x.1), .int (bI x.2), .int ea, .int fa, .ref aCo, .int (nI CM)])), (aS, .inl (cy 2, 89, .inl (encT (nB (dukS a b c σ)) (vB (dukS a b c σ)) (hB (dukS a b c σ)) (pB (dukS a b c σ)) (mB (dukS a b c σ)) (nD (dukS a b c σ)) (bD (dukS a b c σ)) (lD (dukS a b c σ)) (uD (dukS a b c σ)) (qD (dukS a b c σ)) (wD (dukS a b c σ)) (nE (dukS a b c σ)) (kE (dukS a b c σ)) (bE (dukS a b c σ)) (lE (dukS a b c σ)) (tT (dukS a b c σ)) (dT (dukS a b c σ)) (aT (dukS a b c σ)) (rT (dukS a b c σ)) (hT (dukS a b c σ)) (xT (dukS a b c σ))))), (aCo, .inl (cy 2, 240, .inl g))] H := hP
  have hD : va_D (wA [(am, .inr (12, [.ref aS, .ref aBf, .ref aAs, .ref aSv, .int iS, .ref aPa, .int (nI K), .int th, .ref aOu, .int (nI OM), .ref aTx, .int (nI LN), .int (nI x.1), .int (bI x.2), .int ea, .int fa, .ref aCo, .int (nI CM)])), (aS, .inl (cy 2, 89, .inl (encS σ))), (aCo, .inl (cy 2, 240, .inl g))]) [(am, .inr (12, [.ref aS, .ref aBf, .ref aAs, .ref aSv, .int iS, .ref aPa, .int (nI K), .int th, .ref aOu, .int (nI OM), .ref aTx, .int (nI LN), .int (nI x.1), .int (bI x.2), .int ea, .int fa, .ref aCo, .int (nI CM)])), (aS, .inl (cy 2, 89, .inl (encT (nB (dukS a b c σ)) (vB (dukS a b c σ)) (hB (dukS a b c σ)) (pB (dukS a b c σ)) (mB (dukS a b c σ)) (nD (dukS a b c σ)) (bD (dukS a b c σ)) (lD (dukS a b c σ)) (uD (dukS a b c σ)) (qD (dukS a b c σ)) (wD (dukS a b c σ)) (nE (dukS a b c σ)) (kE (dukS a b c σ)) (bE (dukS a b c σ)) (lE (dukS a b c σ)) (tT (dukS a b c σ)) (dT (dukS a b c σ)) (aT (dukS a b c σ)) (rT (dukS a b c σ)) (hT (dukS a b c σ)) (xT (dukS a b c σ))))), (aCo, .inl (cy 2, 240, .inl g))] := hD
  refine lv_istore (lv' := [(5, .int (nI (nD σ))), (4, .int c), (3, .int b), (2, .int a), (0, .ref am), (1, .int (nI i))]) hxq hb dX8_does_184 hl (by decide) rfl (fun ls hl => ?_)
  refine lv_goto (tgt := 215) hxq hb dX8_does_186 (by decide) ?_
  exact wc_vret hxq hb hr hlocks hP hS dX8_does_215

set_option maxRecDepth 100000 in
set_option maxHeartbeats 1000000 in
theorem c_X8_does_duck_no (l : Launch) (G : va_G) (cy : Nat → ClassId) (am aS aBf aAs aSv aPa aOu aTx aCo K OM LN CM : Nat) (iS th ea fa : Int32) (σ : St) (x : Lx) (g : Nat → Int32) (i : Nat) (a b c : Int32) (ho : Ok σ) (hi : i < 60) (e0 : g (4 * i) = 100) (e1 : g (4 * i + 1) = a) (e2 : g (4 * i + 2) = b) (e3 : g (4 * i + 3) = c) (hF : ¬ dukF (nB σ) (nD σ) a b c = 0) : WC l yX8_does wsX8_does { frames := 6, cells := 0, slots := 0, locals := 136 } G (PB G cy [(am, .inr (12, [.ref aS, .ref aBf, .ref aAs, .ref aSv, .int iS, .ref aPa, .int (nI K), .int th, .ref aOu, .int (nI OM), .ref aTx, .int (nI LN), .int (nI x.1), .int (bI x.2), .int ea, .int fa, .ref aCo, .int (nI CM)])), (aS, .inl (cy 2, 89, .inl (encS σ))), (aCo, .inl (cy 2, 240, .inl g))]) [.ref am, .int (nI i)] [(am, .inr (12, [.ref aS, .ref aBf, .ref aAs, .ref aSv, .int iS, .ref aPa, .int (nI K), .int th, .ref aOu, .int (nI OM), .ref aTx, .int (nI LN), .int (nI x.1), .int (bI x.2), .int ea, .int fa, .ref aCo, .int (nI CM)])), (aS, .inl (cy 2, 89, .inl (encS σ))), (aCo, .inl (cy 2, 240, .inl g))] [(am, .inr (12, [.ref aS, .ref aBf, .ref aAs, .ref aSv, .int iS, .ref aPa, .int (nI K), .int (dukF (nB σ) (nD σ) a b c), .ref aOu, .int (nI OM), .ref aTx, .int (nI LN), .int (nI x.1), .int (bI x.2), .int ea, .int fa, .ref aCo, .int (nI CM)])), (aS, .inl (cy 2, 89, .inl (encS σ))), (aCo, .inl (cy 2, 240, .inl g))] (none) := by
  refine WC.ofW (cc := cX8_does) (maxL := 6) (ret := none) (by decide) rfl (Nat.le_of_ble_eq_true rfl) ?_
  intro p e s m below meth cq S9 hr hlocks hPB hD hS ls hl
  obtain ⟨hxq, hb, hml, hown, hts⟩ := id S9
  obtain ⟨hP, hK⟩ := hPB
  have hl : lv_has ls 6 [(0, .ref am), (1, .int (nI i))] := hl
  have hP : va_P G vwCl [(am, .inr (12, [.ref aS, .ref aBf, .ref aAs, .ref aSv, .int iS, .ref aPa, .int (nI K), .int th, .ref aOu, .int (nI OM), .ref aTx, .int (nI LN), .int (nI x.1), .int (bI x.2), .int ea, .int fa, .ref aCo, .int (nI CM)])), (aS, .inl (cy 2, 89, .inl (encT (nB σ) (vB σ) (hB σ) (pB σ) (mB σ) (nD σ) (bD σ) (lD σ) (uD σ) (qD σ) (wD σ) (nE σ) (kE σ) (bE σ) (lE σ) (tT σ) (dT σ) (aT σ) (rT σ) (hT σ) (xT σ)))), (aCo, .inl (cy 2, 240, .inl g))] s.heap := hP
  have hD0 := hD
  have hD : va_D (wA [(am, .inr (12, [.ref aS, .ref aBf, .ref aAs, .ref aSv, .int iS, .ref aPa, .int (nI K), .int th, .ref aOu, .int (nI OM), .ref aTx, .int (nI LN), .int (nI x.1), .int (bI x.2), .int ea, .int fa, .ref aCo, .int (nI CM)])), (aS, .inl (cy 2, 89, .inl (encS σ))), (aCo, .inl (cy 2, 240, .inl g))]) [(am, .inr (12, [.ref aS, .ref aBf, .ref aAs, .ref aSv, .int iS, .ref aPa, .int (nI K), .int th, .ref aOu, .int (nI OM), .ref aTx, .int (nI LN), .int (nI x.1), .int (bI x.2), .int ea, .int fa, .ref aCo, .int (nI CM)])), (aS, .inl (cy 2, 89, .inl (encT (nB σ) (vB σ) (hB σ) (pB σ) (mB σ) (nD σ) (bD σ) (lD σ) (uD σ) (qD σ) (wD σ) (nE σ) (kE σ) (bE σ) (lE σ) (tT σ) (dT σ) (aT σ) (rT σ) (hT σ) (xT σ)))), (aCo, .inl (cy 2, 240, .inl g))] := hD
  have hi12 : ∀ w ∈ wsX80, w ∈ wsX8_does := by decide +kernel
  have hf39 := hts (.fieldLink RX8 39 "BathLeagueModel" "commands" "[I") (by decide +kernel)
  have hN0 := ho.1
  have hM0 := ho.2.1
  refine lv_aload_n hxq hb dX8_does_0 rfl (lv_at hl 0 rfl) ?_
  refine va_get (D := G) (ci := 12) (v := .ref aCo) (C := RX8) (T := TX8) (N := 18) hxq hb hts hi12 hown hK.1 hP 0 rfl rfl 16 (by decide) hf39 (fun _ h9 => h9) rfl dX8_does_1 ?_
  refine lv_iconst (v := 4) hxq hb dX8_does_4 (by decide) ?_
  refine lv_iload_n hxq hb dX8_does_5 rfl (lv_at hl 1 rfl) ?_
  refine lv_imul hxq hb dX8_does_6 ?_
  refine lv_iconst (v := 1) hxq hb dX8_does_7 (by decide) ?_
  refine lv_iadd hxq hb dX8_does_8 ?_
  refine m_iald hxq hb hK hP 2 (k := (4 * i) + 1) rfl (m_add (m_mul rfl rfl) rfl) (by omega) (Nat.le_of_ble_eq_true rfl) dX8_does_9 ?_
  refine lv_t0 (show g ((4 * i) + 1) = a from e1) ?_
  refine lv_istore_n (lv' := [(2, .int a), (0, .ref am), (1, .int (nI i))]) hxq hb dX8_does_10 rfl hl (by decide) rfl (fun ls hl => ?_)
  refine lv_aload_n hxq hb dX8_does_11 rfl (lv_at hl 1 rfl) ?_
  refine va_get (D := G) (ci := 12) (v := .ref aCo) (C := RX8) (T := TX8) (N := 18) hxq hb hts hi12 hown hK.1 hP 0 rfl rfl 16 (by decide) hf39 (fun _ h9 => h9) rfl dX8_does_12 ?_
  refine lv_iconst (v := 4) hxq hb dX8_does_15 (by decide) ?_
  refine lv_iload_n hxq hb dX8_does_16 rfl (lv_at hl 2 rfl) ?_
  refine lv_imul hxq hb dX8_does_17 ?_
  refine lv_iconst (v := 2) hxq hb dX8_does_18 (by decide) ?_
  refine lv_iadd hxq hb dX8_does_19 ?_
  refine m_iald hxq hb hK hP 2 (k := (4 * i) + 2) rfl (m_add (m_mul rfl rfl) rfl) (by omega) (Nat.le_of_ble_eq_true rfl) dX8_does_20 ?_
  refine lv_t0 (show g ((4 * i) + 2) = b from e2) ?_
  refine lv_istore_n (lv' := [(3, .int b), (2, .int a), (0, .ref am), (1, .int (nI i))]) hxq hb dX8_does_21 rfl hl (by decide) rfl (fun ls hl => ?_)
  refine lv_aload_n hxq hb dX8_does_22 rfl (lv_at hl 2 rfl) ?_
  refine va_get (D := G) (ci := 12) (v := .ref aCo) (C := RX8) (T := TX8) (N := 18) hxq hb hts hi12 hown hK.1 hP 0 rfl rfl 16 (by decide) hf39 (fun _ h9 => h9) rfl dX8_does_23 ?_
  refine lv_iconst (v := 4) hxq hb dX8_does_26 (by decide) ?_
  refine lv_iload_n hxq hb dX8_does_27 rfl (lv_at hl 3 rfl) ?_
  refine lv_imul hxq hb dX8_does_28 ?_
  refine lv_iconst (v := 3) hxq hb dX8_does_29 (by decide) ?_
  refine lv_iadd hxq hb dX8_does_30 ?_
  refine m_iald hxq hb hK hP 2 (k := (4 * i) + 3) rfl (m_add (m_mul rfl rfl) rfl) (by omega) (Nat.le_of_ble_eq_true rfl) dX8_does_31 ?_
  refine lv_t0 (show g ((4 * i) + 3) = c from e3) ?_
  refine lv_istore (lv' := [(4, .int c), (3, .int b), (2, .int a), (0, .ref am), (1, .int (nI i))]) hxq hb dX8_does_32 hl (by decide) rfl (fun ls hl => ?_)
  refine lv_aload_n hxq hb dX8_does_34 rfl (lv_at hl 3 rfl) ?_
  refine va_get (D := G) (ci := 12) (v := .ref aCo) (C := RX8) (T := TX8) (N := 18) hxq hb hts hi12 hown hK.1 hP 0 rfl rfl 16 (by decide) hf39 (fun _ h9 => h9) rfl dX8_does_35 ?_
  refine lv_iconst (v := 4) hxq hb dX8_does_38 (by decide) ?_
  refine lv_iload_n hxq hb dX8_does_39 rfl (lv_at hl 4 rfl) ?_
  refine lv_imul hxq hb dX8_does_40 ?_
  refine m_iald hxq hb hK hP 2 (k := 4 * i) rfl (m_mul rfl rfl) (by omega) (Nat.le_of_ble_eq_true rfl) dX8_does_41 ?_
  refine lv_t0 e0 ?_
  refine lv_tableIn (off := 134) (tgt := 176) hxq hb dX8_does_42 (by decide) (by decide) (by decide) (by decide) ?_
  refine lv_aload_n hxq hb dX8_does_176 rfl (lv_at hl 3 rfl) ?_
  refine lv_iload_n hxq hb dX8_does_177 rfl (lv_at hl 2 rfl) ?_
  refine lv_iload_n hxq hb dX8_does_178 rfl (lv_at hl 1 rfl) ?_
  refine lv_iload hxq hb dX8_does_179 (lv_at hl 0 rfl) ?_
  refine c_wcVi (ws' := [(am, .inr (12, [.ref aS, .ref aBf, .ref aAs, .ref aSv, .int iS, .ref aPa, .int (nI K), .int (dukF (nB σ) (nD σ) a b c), .ref aOu, .int (nI OM), .ref aTx, .int (nI LN), .int (nI x.1), .int (bI x.2), .int ea, .int fa, .ref aCo, .int (nI CM)])), (aS, .inl (cy 2, 89, .inl (encT (nB σ) (vB σ) (hB σ) (pB σ) (mB σ) (nD σ) (bD σ) (lD σ) (uD σ) (qD σ) (wD σ) (nE σ) (kE σ) (bE σ) (lE σ) (tT σ) (dT σ) (aT σ) (rT σ) (hT σ) (xT σ)))), (aCo, .inl (cy 2, 240, .inl g))]) S9 (c_X8_doAddDuck_no l G cy am aS aBf aAs aSv aPa aOu aTx aCo K OM LN x.1 CM iS th (bI x.2) ea fa (nB σ) (vB σ) (hB σ) (pB σ) (mB σ) (nD σ) (bD σ) (lD σ) (uD σ) (qD σ) (wD σ) (nE σ) (kE σ) (bE σ) (lE σ) (tT σ) (dT σ) (aT σ) (rT σ) (hT σ) (xT σ) a b c ho.1 ho.2.1 hF) (cwV 3 hts gX8_does_X8_doAddDuck rfl rfl rfl (by decide +kernel) ⟨Nat.le_of_ble_eq_true rfl, Nat.le_of_ble_eq_true rfl⟩) PB.blind (va_recv hK.1 hP (ci := 12) (q0 := 0) rfl rfl) (PB.at hK (m_Ppart hP [0, 1] rfl)) hP hD hS [0, 1] rfl rfl m_f2 rfl rfl hl.1 rfl (Nat.le_of_ble_eq_true rfl) ⟨Nat.zero_le _, Nat.zero_le _⟩ dX8_does_181 (fun H locs hP hD hS => ?_)
  refine lv_istore (lv' := [(5, .int 0), (4, .int c), (3, .int b), (2, .int a), (0, .ref am), (1, .int (nI i))]) hxq hb dX8_does_184 hl (by decide) rfl (fun ls hl => ?_)
  refine lv_goto (tgt := 215) hxq hb dX8_does_186 (by decide) ?_
  exact wc_vret hxq hb hr hlocks hP hS dX8_does_215

set_option maxRecDepth 100000 in
set_option maxHeartbeats 1000000 in
theorem c_X8_does_join_ok (l : Launch) (G : va_G) (cy : Nat → ClassId) (am aS aBf aAs aSv aPa aOu aTx aCo K OM LN CM : Nat) (iS th ea fa : Int32) (σ : St) (x : Lx) (g : Nat → Int32) (i : Nat) (a b c : Int32) (ho : Ok σ) (hi : i < 60) (e0 : g (4 * i) = 106) (e1 : g (4 * i + 1) = a) (hb9 : a = nI (bx a)) (hF : admF (nB σ) (vB σ) (hB σ) (mB σ) a = 0) : WC l yX8_does wsX8_does { frames := 6, cells := 0, slots := 0, locals := 136 } G (PB G cy [(am, .inr (12, [.ref aS, .ref aBf, .ref aAs, .ref aSv, .int iS, .ref aPa, .int (nI K), .int th, .ref aOu, .int (nI OM), .ref aTx, .int (nI LN), .int (nI x.1), .int (bI x.2), .int ea, .int fa, .ref aCo, .int (nI CM)])), (aS, .inl (cy 2, 89, .inl (encS σ))), (aCo, .inl (cy 2, 240, .inl g))]) [.ref am, .int (nI i)] [(am, .inr (12, [.ref aS, .ref aBf, .ref aAs, .ref aSv, .int iS, .ref aPa, .int (nI K), .int th, .ref aOu, .int (nI OM), .ref aTx, .int (nI LN), .int (nI x.1), .int (bI x.2), .int ea, .int fa, .ref aCo, .int (nI CM)])), (aS, .inl (cy 2, 89, .inl (encS σ))), (aCo, .inl (cy 2, 240, .inl g))] [(am, .inr (12, [.ref aS, .ref aBf, .ref aAs, .ref aSv, .int iS, .ref aPa, .int (nI K), .int th, .ref aOu, .int (nI OM), .ref aTx, .int (nI LN), .int (nI x.1), .int (bI x.2), .int ea, .int fa, .ref aCo, .int (nI CM)])), (aS, .inl (cy 2, 89, .inl (encS (admS (bx a) σ)))), (aCo, .inl (cy 2, 240, .inl g))] (none) := by
  refine WC.ofW (cc := cX8_does) (maxL := 6) (ret := none) (by decide) rfl (Nat.le_of_ble_eq_true rfl) ?_
  intro p e s m below meth cq S9 hr hlocks hPB hD hS ls hl
  obtain ⟨hxq, hb, hml, hown, hts⟩ := id S9
  obtain ⟨hP, hK⟩ := hPB
  have hl : lv_has ls 6 [(0, .ref am), (1, .int (nI i))] := hl
  have hP : va_P G vwCl [(am, .inr (12, [.ref aS, .ref aBf, .ref aAs, .ref aSv, .int iS, .ref aPa, .int (nI K), .int th, .ref aOu, .int (nI OM), .ref aTx, .int (nI LN), .int (nI x.1), .int (bI x.2), .int ea, .int fa, .ref aCo, .int (nI CM)])), (aS, .inl (cy 2, 89, .inl (encT (nB σ) (vB σ) (hB σ) (pB σ) (mB σ) (nD σ) (bD σ) (lD σ) (uD σ) (qD σ) (wD σ) (nE σ) (kE σ) (bE σ) (lE σ) (tT σ) (dT σ) (aT σ) (rT σ) (hT σ) (xT σ)))), (aCo, .inl (cy 2, 240, .inl g))] s.heap := hP
  have hD0 := hD
  have hD : va_D (wA [(am, .inr (12, [.ref aS, .ref aBf, .ref aAs, .ref aSv, .int iS, .ref aPa, .int (nI K), .int th, .ref aOu, .int (nI OM), .ref aTx, .int (nI LN), .int (nI x.1), .int (bI x.2), .int ea, .int fa, .ref aCo, .int (nI CM)])), (aS, .inl (cy 2, 89, .inl (encS σ))), (aCo, .inl (cy 2, 240, .inl g))]) [(am, .inr (12, [.ref aS, .ref aBf, .ref aAs, .ref aSv, .int iS, .ref aPa, .int (nI K), .int th, .ref aOu, .int (nI OM), .ref aTx, .int (nI LN), .int (nI x.1), .int (bI x.2), .int ea, .int fa, .ref aCo, .int (nI CM)])), (aS, .inl (cy 2, 89, .inl (encT (nB σ) (vB σ) (hB σ) (pB σ) (mB σ) (nD σ) (bD σ) (lD σ) (uD σ) (qD σ) (wD σ) (nE σ) (kE σ) (bE σ) (lE σ) (tT σ) (dT σ) (aT σ) (rT σ) (hT σ) (xT σ)))), (aCo, .inl (cy 2, 240, .inl g))] := hD
  have hi12 : ∀ w ∈ wsX80, w ∈ wsX8_does := by decide +kernel
  have hf39 := hts (.fieldLink RX8 39 "BathLeagueModel" "commands" "[I") (by decide +kernel)
  have hN0 := ho.1
  have hM0 := ho.2.1
  refine lv_aload_n hxq hb dX8_does_0 rfl (lv_at hl 0 rfl) ?_
  refine va_get (D := G) (ci := 12) (v := .ref aCo) (C := RX8) (T := TX8) (N := 18) hxq hb hts hi12 hown hK.1 hP 0 rfl rfl 16 (by decide) hf39 (fun _ h9 => h9) rfl dX8_does_1 ?_
  refine lv_iconst (v := 4) hxq hb dX8_does_4 (by decide) ?_
  refine lv_iload_n hxq hb dX8_does_5 rfl (lv_at hl 1 rfl) ?_
  refine lv_imul hxq hb dX8_does_6 ?_
  refine lv_iconst (v := 1) hxq hb dX8_does_7 (by decide) ?_
  refine lv_iadd hxq hb dX8_does_8 ?_
  refine m_iald hxq hb hK hP 2 (k := (4 * i) + 1) rfl (m_add (m_mul rfl rfl) rfl) (by omega) (Nat.le_of_ble_eq_true rfl) dX8_does_9 ?_
  refine lv_t0 (show g ((4 * i) + 1) = a from e1) ?_
  refine lv_istore_n (lv' := [(2, .int a), (0, .ref am), (1, .int (nI i))]) hxq hb dX8_does_10 rfl hl (by decide) rfl (fun ls hl => ?_)
  refine lv_aload_n hxq hb dX8_does_11 rfl (lv_at hl 1 rfl) ?_
  refine va_get (D := G) (ci := 12) (v := .ref aCo) (C := RX8) (T := TX8) (N := 18) hxq hb hts hi12 hown hK.1 hP 0 rfl rfl 16 (by decide) hf39 (fun _ h9 => h9) rfl dX8_does_12 ?_
  refine lv_iconst (v := 4) hxq hb dX8_does_15 (by decide) ?_
  refine lv_iload_n hxq hb dX8_does_16 rfl (lv_at hl 2 rfl) ?_
  refine lv_imul hxq hb dX8_does_17 ?_
  refine lv_iconst (v := 2) hxq hb dX8_does_18 (by decide) ?_
  refine lv_iadd hxq hb dX8_does_19 ?_
  refine m_iald hxq hb hK hP 2 (k := (4 * i) + 2) rfl (m_add (m_mul rfl rfl) rfl) (by omega) (Nat.le_of_ble_eq_true rfl) dX8_does_20 ?_
  refine lv_istore_n (lv' := [(3, .int (g ((4 * i) + 2))), (2, .int a), (0, .ref am), (1, .int (nI i))]) hxq hb dX8_does_21 rfl hl (by decide) rfl (fun ls hl => ?_)
  refine lv_aload_n hxq hb dX8_does_22 rfl (lv_at hl 2 rfl) ?_
  refine va_get (D := G) (ci := 12) (v := .ref aCo) (C := RX8) (T := TX8) (N := 18) hxq hb hts hi12 hown hK.1 hP 0 rfl rfl 16 (by decide) hf39 (fun _ h9 => h9) rfl dX8_does_23 ?_
  refine lv_iconst (v := 4) hxq hb dX8_does_26 (by decide) ?_
  refine lv_iload_n hxq hb dX8_does_27 rfl (lv_at hl 3 rfl) ?_
  refine lv_imul hxq hb dX8_does_28 ?_
  refine lv_iconst (v := 3) hxq hb dX8_does_29 (by decide) ?_
  refine lv_iadd hxq hb dX8_does_30 ?_
  refine m_iald hxq hb hK hP 2 (k := (4 * i) + 3) rfl (m_add (m_mul rfl rfl) rfl) (by omega) (Nat.le_of_ble_eq_true rfl) dX8_does_31 ?_
  refine lv_istore (lv' := [(4, .int (g ((4 * i) + 3))), (3, .int (g ((4 * i) + 2))), (2, .int a), (0, .ref am), (1, .int (nI i))]) hxq hb dX8_does_32 hl (by decide) rfl (fun ls hl => ?_)
  refine lv_aload_n hxq hb dX8_does_34 rfl (lv_at hl 3 rfl) ?_
  refine va_get (D := G) (ci := 12) (v := .ref aCo) (C := RX8) (T := TX8) (N := 18) hxq hb hts hi12 hown hK.1 hP 0 rfl rfl 16 (by decide) hf39 (fun _ h9 => h9) rfl dX8_does_35 ?_
  refine lv_iconst (v := 4) hxq hb dX8_does_38 (by decide) ?_
  refine lv_iload_n hxq hb dX8_does_39 rfl (lv_at hl 4 rfl) ?_
  refine lv_imul hxq hb dX8_does_40 ?_
  refine m_iald hxq hb hK hP 2 (k := 4 * i) rfl (m_mul rfl rfl) (by omega) (Nat.le_of_ble_eq_true rfl) dX8_does_41 ?_
  refine lv_t0 e0 ?_
  refine lv_tableIn (off := 147) (tgt := 189) hxq hb dX8_does_42 (by decide) (by decide) (by decide) (by decide) ?_
  refine lv_aload_n hxq hb dX8_does_189 rfl (lv_at hl 3 rfl) ?_
  refine lv_iload_n hxq hb dX8_does_190 rfl (lv_at hl 2 rfl) ?_
  refine c_wcVi (ws' := [(am, .inr (12, [.ref aS, .ref aBf, .ref aAs, .ref aSv, .int iS, .ref aPa, .int (nI K), .int th, .ref aOu, .int (nI OM), .ref aTx, .int (nI LN), .int (nI x.1), .int (bI x.2), .int ea, .int fa, .ref aCo, .int (nI CM)])), (aS, .inl (cy 2, 89, .inl (encT (nB σ) (vB σ) (hB σ) (pB σ) (upd (mB σ) (bx a) 1) (nD σ) (bD σ) (lD σ) (uD σ) (qD σ) (wD σ) (evc (nE σ)) (psh (kE σ) 106) (psh (bE σ) a) (psh (lE σ) (-1)) (tT σ) (dT σ) (aT σ) (rT σ) (hT σ) (xT σ)))), (aCo, .inl (cy 2, 240, .inl g))]) S9 (c_X8_doJoin_ok l G cy am aS aBf aAs aSv aPa aOu aTx aCo K OM LN x.1 CM iS th (bI x.2) ea fa (nB σ) (vB σ) (hB σ) (pB σ) (mB σ) (nD σ) (bD σ) (lD σ) (uD σ) (qD σ) (wD σ) (nE σ) (kE σ) (bE σ) (lE σ) (tT σ) (dT σ) (aT σ) (rT σ) (hT σ) (xT σ) a ho.1 ho.2.2.1 ho.m01 hF) (cwV 1 hts gX8_does_X8_doJoin rfl rfl rfl (by decide +kernel) ⟨Nat.le_of_ble_eq_true rfl, Nat.le_of_ble_eq_true rfl⟩) PB.blind (va_recv hK.1 hP (ci := 12) (q0 := 0) rfl rfl) (PB.at hK (m_Ppart hP [0, 1] rfl)) hP hD hS [0, 1] rfl rfl m_f2 rfl rfl hl.1 rfl (Nat.le_of_ble_eq_true rfl) ⟨Nat.zero_le _, Nat.zero_le _⟩ dX8_does_191 (fun H locs hP hD hS => ?_)
  have hP : va_P G vwCl [(am, .inr (12, [.ref aS, .ref aBf, .ref aAs, .ref aSv, .int iS, .ref aPa, .int (nI K), .int th, .ref aOu, .int (nI OM), .ref aTx, .int (nI LN), .int (nI x.1), .int (bI x.2), .int ea, .int fa, .ref aCo, .int (nI CM)])), (aS, .inl (cy 2, 89, .inl (encS (admS (bx a) σ)))), (aCo, .inl (cy 2, 240, .inl g))] H := by rw [show admS (bx a) σ = (((nB σ), (vB σ), (hB σ), (pB σ), (upd (mB σ) (bx a) 1)), ((nD σ), (bD σ), (lD σ), (uD σ), (qD σ), (wD σ)), ((evc (nE σ)), (psh (kE σ) 106), (psh (bE σ) a), (psh (lE σ) (-1))), ((tT σ), (dT σ), (aT σ), (rT σ), (hT σ), (xT σ))) from by unfold admS; rw [← hb9], encS_mk]; exact hP
  have hD : va_D (wA [(am, .inr (12, [.ref aS, .ref aBf, .ref aAs, .ref aSv, .int iS, .ref aPa, .int (nI K), .int th, .ref aOu, .int (nI OM), .ref aTx, .int (nI LN), .int (nI x.1), .int (bI x.2), .int ea, .int fa, .ref aCo, .int (nI CM)])), (aS, .inl (cy 2, 89, .inl (encS σ))), (aCo, .inl (cy 2, 240, .inl g))]) [(am, .inr (12, [.ref aS, .ref aBf, .ref aAs, .ref aSv, .int iS, .ref aPa, .int (nI K), .int th, .ref aOu, .int (nI OM), .ref aTx, .int (nI LN), .int (nI x.1), .int (bI x.2), .int ea, .int fa, .ref aCo, .int (nI CM)])), (aS, .inl (cy 2, 89, .inl (encS (admS (bx a) σ)))), (aCo, .inl (cy 2, 240, .inl g))] := m_D3 hD0
  have hP : va_P G vwCl [(am, .inr (12, [.ref aS, .ref aBf, .ref aAs, .ref aSv, .int iS, .ref aPa, .int (nI K), .int th, .ref aOu, .int (nI OM), .ref aTx, .int (nI LN), .int (nI x.1), .int (bI x.2), .int ea, .int fa, .ref aCo, .int (nI CM)])), (aS, .inl (cy 2, 89, .inl (encT (nB (admS (bx a) σ)) (vB (admS (bx a) σ)) (hB (admS (bx a) σ)) (pB (admS (bx a) σ)) (mB (admS (bx a) σ)) (nD (admS (bx a) σ)) (bD (admS (bx a) σ)) (lD (admS (bx a) σ)) (uD (admS (bx a) σ)) (qD (admS (bx a) σ)) (wD (admS (bx a) σ)) (nE (admS (bx a) σ)) (kE (admS (bx a) σ)) (bE (admS (bx a) σ)) (lE (admS (bx a) σ)) (tT (admS (bx a) σ)) (dT (admS (bx a) σ)) (aT (admS (bx a) σ)) (rT (admS (bx a) σ)) (hT (admS (bx a) σ)) (xT (admS (bx a) σ))))), (aCo, .inl (cy 2, 240, .inl g))] H := hP
  have hD : va_D (wA [(am, .inr (12, [.ref aS, .ref aBf, .ref aAs, .ref aSv, .int iS, .ref aPa, .int (nI K), .int th, .ref aOu, .int (nI OM), .ref aTx, .int (nI LN), .int (nI x.1), .int (bI x.2), .int ea, .int fa, .ref aCo, .int (nI CM)])), (aS, .inl (cy 2, 89, .inl (encS σ))), (aCo, .inl (cy 2, 240, .inl g))]) [(am, .inr (12, [.ref aS, .ref aBf, .ref aAs, .ref aSv, .int iS, .ref aPa, .int (nI K), .int th, .ref aOu, .int (nI OM), .ref aTx, .int (nI LN), .int (nI x.1), .int (bI x.2), .int ea, .int fa, .ref aCo, .int (nI CM)])), (aS, .inl (cy 2, 89, .inl (encT (nB (admS (bx a) σ)) (vB (admS (bx a) σ)) (hB (admS (bx a) σ)) (pB (admS (bx a) σ)) (mB (admS (bx a) σ)) (nD (admS (bx a) σ)) (bD (admS (bx a) σ)) (lD (admS (bx a) σ)) (uD (admS (bx a) σ)) (qD (admS (bx a) σ)) (wD (admS (bx a) σ)) (nE (admS (bx a) σ)) (kE (admS (bx a) σ)) (bE (admS (bx a) σ)) (lE (admS (bx a) σ)) (tT (admS (bx a) σ)) (dT (admS (bx a) σ)) (aT (admS (bx a) σ)) (rT (admS (bx a) σ)) (hT (admS (bx a) σ)) (xT (admS (bx a) σ))))), (aCo, .inl (cy 2, 240, .inl g))] := hD
  refine lv_istore (lv' := [(5, .int (cntM (upd (mB σ) (bx a) 1) (nB σ))), (4, .int (g ((4 * i) + 3))), (3, .int (g ((4 * i) + 2))), (2, .int a), (0, .ref am), (1, .int (nI i))]) hxq hb dX8_does_194 hl (by decide) rfl (fun ls hl => ?_)
  refine lv_goto (tgt := 215) hxq hb dX8_does_196 (by decide) ?_
  exact wc_vret hxq hb hr hlocks hP hS dX8_does_215

set_option maxRecDepth 100000 in
set_option maxHeartbeats 1000000 in
theorem c_X8_does_join_no (l : Launch) (G : va_G) (cy : Nat → ClassId) (am aS aBf aAs aSv aPa aOu aTx aCo K OM LN CM : Nat) (iS th ea fa : Int32) (σ : St) (x : Lx) (g : Nat → Int32) (i : Nat) (a b c : Int32) (ho : Ok σ) (hi : i < 60) (e0 : g (4 * i) = 106) (e1 : g (4 * i + 1) = a) (hF : ¬ admF (nB σ) (vB σ) (hB σ) (mB σ) a = 0) : WC l yX8_does wsX8_does { frames := 6, cells := 0, slots := 0, locals := 136 } G (PB G cy [(am, .inr (12, [.ref aS, .ref aBf, .ref aAs, .ref aSv, .int iS, .ref aPa, .int (nI K), .int th, .ref aOu, .int (nI OM), .ref aTx, .int (nI LN), .int (nI x.1), .int (bI x.2), .int ea, .int fa, .ref aCo, .int (nI CM)])), (aS, .inl (cy 2, 89, .inl (encS σ))), (aCo, .inl (cy 2, 240, .inl g))]) [.ref am, .int (nI i)] [(am, .inr (12, [.ref aS, .ref aBf, .ref aAs, .ref aSv, .int iS, .ref aPa, .int (nI K), .int th, .ref aOu, .int (nI OM), .ref aTx, .int (nI LN), .int (nI x.1), .int (bI x.2), .int ea, .int fa, .ref aCo, .int (nI CM)])), (aS, .inl (cy 2, 89, .inl (encS σ))), (aCo, .inl (cy 2, 240, .inl g))] [(am, .inr (12, [.ref aS, .ref aBf, .ref aAs, .ref aSv, .int iS, .ref aPa, .int (nI K), .int (mcJ (admF (nB σ) (vB σ) (hB σ) (mB σ) a)), .ref aOu, .int (nI OM), .ref aTx, .int (nI LN), .int (nI x.1), .int (bI x.2), .int ea, .int fa, .ref aCo, .int (nI CM)])), (aS, .inl (cy 2, 89, .inl (encS σ))), (aCo, .inl (cy 2, 240, .inl g))] (none) := by
  refine WC.ofW (cc := cX8_does) (maxL := 6) (ret := none) (by decide) rfl (Nat.le_of_ble_eq_true rfl) ?_
  intro p e s m below meth cq S9 hr hlocks hPB hD hS ls hl
  obtain ⟨hxq, hb, hml, hown, hts⟩ := id S9
  obtain ⟨hP, hK⟩ := hPB
  have hl : lv_has ls 6 [(0, .ref am), (1, .int (nI i))] := hl
  have hP : va_P G vwCl [(am, .inr (12, [.ref aS, .ref aBf, .ref aAs, .ref aSv, .int iS, .ref aPa, .int (nI K), .int th, .ref aOu, .int (nI OM), .ref aTx, .int (nI LN), .int (nI x.1), .int (bI x.2), .int ea, .int fa, .ref aCo, .int (nI CM)])), (aS, .inl (cy 2, 89, .inl (encT (nB σ) (vB σ) (hB σ) (pB σ) (mB σ) (nD σ) (bD σ) (lD σ) (uD σ) (qD σ) (wD σ) (nE σ) (kE σ) (bE σ) (lE σ) (tT σ) (dT σ) (aT σ) (rT σ) (hT σ) (xT σ)))), (aCo, .inl (cy 2, 240, .inl g))] s.heap := hP
  have hD0 := hD
  have hD : va_D (wA [(am, .inr (12, [.ref aS, .ref aBf, .ref aAs, .ref aSv, .int iS, .ref aPa, .int (nI K), .int th, .ref aOu, .int (nI OM), .ref aTx, .int (nI LN), .int (nI x.1), .int (bI x.2), .int ea, .int fa, .ref aCo, .int (nI CM)])), (aS, .inl (cy 2, 89, .inl (encS σ))), (aCo, .inl (cy 2, 240, .inl g))]) [(am, .inr (12, [.ref aS, .ref aBf, .ref aAs, .ref aSv, .int iS, .ref aPa, .int (nI K), .int th, .ref aOu, .int (nI OM), .ref aTx, .int (nI LN), .int (nI x.1), .int (bI x.2), .int ea, .int fa, .ref aCo, .int (nI CM)])), (aS, .inl (cy 2, 89, .inl (encT (nB σ) (vB σ) (hB σ) (pB σ) (mB σ) (nD σ) (bD σ) (lD σ) (uD σ) (qD σ) (wD σ) (nE σ) (kE σ) (bE σ) (lE σ) (tT σ) (dT σ) (aT σ) (rT σ) (hT σ) (xT σ)))), (aCo, .inl (cy 2, 240, .inl g))] := hD
  have hi12 : ∀ w ∈ wsX80, w ∈ wsX8_does := by decide +kernel
  have hf39 := hts (.fieldLink RX8 39 "BathLeagueModel" "commands" "[I") (by decide +kernel)
  have hN0 := ho.1
  have hM0 := ho.2.1
  refine lv_aload_n hxq hb dX8_does_0 rfl (lv_at hl 0 rfl) ?_
  refine va_get (D := G) (ci := 12) (v := .ref aCo) (C := RX8) (T := TX8) (N := 18) hxq hb hts hi12 hown hK.1 hP 0 rfl rfl 16 (by decide) hf39 (fun _ h9 => h9) rfl dX8_does_1 ?_
  refine lv_iconst (v := 4) hxq hb dX8_does_4 (by decide) ?_
  refine lv_iload_n hxq hb dX8_does_5 rfl (lv_at hl 1 rfl) ?_
  refine lv_imul hxq hb dX8_does_6 ?_
  refine lv_iconst (v := 1) hxq hb dX8_does_7 (by decide) ?_
  refine lv_iadd hxq hb dX8_does_8 ?_
  refine m_iald hxq hb hK hP 2 (k := (4 * i) + 1) rfl (m_add (m_mul rfl rfl) rfl) (by omega) (Nat.le_of_ble_eq_true rfl) dX8_does_9 ?_
  refine lv_t0 (show g ((4 * i) + 1) = a from e1) ?_
  refine lv_istore_n (lv' := [(2, .int a), (0, .ref am), (1, .int (nI i))]) hxq hb dX8_does_10 rfl hl (by decide) rfl (fun ls hl => ?_)
  refine lv_aload_n hxq hb dX8_does_11 rfl (lv_at hl 1 rfl) ?_
  refine va_get (D := G) (ci := 12) (v := .ref aCo) (C := RX8) (T := TX8) (N := 18) hxq hb hts hi12 hown hK.1 hP 0 rfl rfl 16 (by decide) hf39 (fun _ h9 => h9) rfl dX8_does_12 ?_
  refine lv_iconst (v := 4) hxq hb dX8_does_15 (by decide) ?_
  refine lv_iload_n hxq hb dX8_does_16 rfl (lv_at hl 2 rfl) ?_
  refine lv_imul hxq hb dX8_does_17 ?_
  refine lv_iconst (v := 2) hxq hb dX8_does_18 (by decide) ?_
  refine lv_iadd hxq hb dX8_does_19 ?_
  refine m_iald hxq hb hK hP 2 (k := (4 * i) + 2) rfl (m_add (m_mul rfl rfl) rfl) (by omega) (Nat.le_of_ble_eq_true rfl) dX8_does_20 ?_
  refine lv_istore_n (lv' := [(3, .int (g ((4 * i) + 2))), (2, .int a), (0, .ref am), (1, .int (nI i))]) hxq hb dX8_does_21 rfl hl (by decide) rfl (fun ls hl => ?_)
  refine lv_aload_n hxq hb dX8_does_22 rfl (lv_at hl 2 rfl) ?_
  refine va_get (D := G) (ci := 12) (v := .ref aCo) (C := RX8) (T := TX8) (N := 18) hxq hb hts hi12 hown hK.1 hP 0 rfl rfl 16 (by decide) hf39 (fun _ h9 => h9) rfl dX8_does_23 ?_
  refine lv_iconst (v := 4) hxq hb dX8_does_26 (by decide) ?_
  refine lv_iload_n hxq hb dX8_does_27 rfl (lv_at hl 3 rfl) ?_
  refine lv_imul hxq hb dX8_does_28 ?_
  refine lv_iconst (v := 3) hxq hb dX8_does_29 (by decide) ?_
  refine lv_iadd hxq hb dX8_does_30 ?_
  refine m_iald hxq hb hK hP 2 (k := (4 * i) + 3) rfl (m_add (m_mul rfl rfl) rfl) (by omega) (Nat.le_of_ble_eq_true rfl) dX8_does_31 ?_
  refine lv_istore (lv' := [(4, .int (g ((4 * i) + 3))), (3, .int (g ((4 * i) + 2))), (2, .int a), (0, .ref am), (1, .int (nI i))]) hxq hb dX8_does_32 hl (by decide) rfl (fun ls hl => ?_)
  refine lv_aload_n hxq hb dX8_does_34 rfl (lv_at hl 3 rfl) ?_
  refine va_get (D := G) (ci := 12) (v := .ref aCo) (C := RX8) (T := TX8) (N := 18) hxq hb hts hi12 hown hK.1 hP 0 rfl rfl 16 (by decide) hf39 (fun _ h9 => h9) rfl dX8_does_35 ?_
  refine lv_iconst (v := 4) hxq hb dX8_does_38 (by decide) ?_
  refine lv_iload_n hxq hb dX8_does_39 rfl (lv_at hl 4 rfl) ?_
  refine lv_imul hxq hb dX8_does_40 ?_
  refine m_iald hxq hb hK hP 2 (k := 4 * i) rfl (m_mul rfl rfl) (by omega) (Nat.le_of_ble_eq_true rfl) dX8_does_41 ?_
  refine lv_t0 e0 ?_
  refine lv_tableIn (off := 147) (tgt := 189) hxq hb dX8_does_42 (by decide) (by decide) (by decide) (by decide) ?_
  refine lv_aload_n hxq hb dX8_does_189 rfl (lv_at hl 3 rfl) ?_
  refine lv_iload_n hxq hb dX8_does_190 rfl (lv_at hl 2 rfl) ?_
  refine c_wcVi (ws' := [(am, .inr (12, [.ref aS, .ref aBf, .ref aAs, .ref aSv, .int iS, .ref aPa, .int (nI K), .int (mcJ (admF (nB σ) (vB σ) (hB σ) (mB σ) a)), .ref aOu, .int (nI OM), .ref aTx, .int (nI LN), .int (nI x.1), .int (bI x.2), .int ea, .int fa, .ref aCo, .int (nI CM)])), (aS, .inl (cy 2, 89, .inl (encT (nB σ) (vB σ) (hB σ) (pB σ) (mB σ) (nD σ) (bD σ) (lD σ) (uD σ) (qD σ) (wD σ) (nE σ) (kE σ) (bE σ) (lE σ) (tT σ) (dT σ) (aT σ) (rT σ) (hT σ) (xT σ)))), (aCo, .inl (cy 2, 240, .inl g))]) S9 (c_X8_doJoin_no l G cy am aS aBf aAs aSv aPa aOu aTx aCo K OM LN x.1 CM iS th (bI x.2) ea fa (nB σ) (vB σ) (hB σ) (pB σ) (mB σ) (nD σ) (bD σ) (lD σ) (uD σ) (qD σ) (wD σ) (nE σ) (kE σ) (bE σ) (lE σ) (tT σ) (dT σ) (aT σ) (rT σ) (hT σ) (xT σ) a ho.1 ho.2.2.1 ho.m01 hF) (cwV 1 hts gX8_does_X8_doJoin rfl rfl rfl (by decide +kernel) ⟨Nat.le_of_ble_eq_true rfl, Nat.le_of_ble_eq_true rfl⟩) PB.blind (va_recv hK.1 hP (ci := 12) (q0 := 0) rfl rfl) (PB.at hK (m_Ppart hP [0, 1] rfl)) hP hD hS [0, 1] rfl rfl m_f2 rfl rfl hl.1 rfl (Nat.le_of_ble_eq_true rfl) ⟨Nat.zero_le _, Nat.zero_le _⟩ dX8_does_191 (fun H locs hP hD hS => ?_)
  refine lv_istore (lv' := [(5, .int 0), (4, .int (g ((4 * i) + 3))), (3, .int (g ((4 * i) + 2))), (2, .int a), (0, .ref am), (1, .int (nI i))]) hxq hb dX8_does_194 hl (by decide) rfl (fun ls hl => ?_)
  refine lv_goto (tgt := 215) hxq hb dX8_does_196 (by decide) ?_
  exact wc_vret hxq hb hr hlocks hP hS dX8_does_215

set_option maxRecDepth 100000 in
set_option maxHeartbeats 1000000 in
theorem c_X8_does_leave_ok (l : Launch) (G : va_G) (cy : Nat → ClassId) (am aS aBf aAs aSv aPa aOu aTx aCo K OM LN CM : Nat) (iS th ea fa : Int32) (σ : St) (x : Lx) (g : Nat → Int32) (i : Nat) (a b c : Int32) (ho : Ok σ) (hi : i < 60) (e0 : g (4 * i) = 108) (e1 : g (4 * i + 1) = a) (hb9 : a = nI (bx a)) (hF : disF (nB σ) (mB σ) a = 0) : WC l yX8_does wsX8_does { frames := 6, cells := 0, slots := 0, locals := 136 } G (PB G cy [(am, .inr (12, [.ref aS, .ref aBf, .ref aAs, .ref aSv, .int iS, .ref aPa, .int (nI K), .int th, .ref aOu, .int (nI OM), .ref aTx, .int (nI LN), .int (nI x.1), .int (bI x.2), .int ea, .int fa, .ref aCo, .int (nI CM)])), (aS, .inl (cy 2, 89, .inl (encS σ))), (aCo, .inl (cy 2, 240, .inl g))]) [.ref am, .int (nI i)] [(am, .inr (12, [.ref aS, .ref aBf, .ref aAs, .ref aSv, .int iS, .ref aPa, .int (nI K), .int th, .ref aOu, .int (nI OM), .ref aTx, .int (nI LN), .int (nI x.1), .int (bI x.2), .int ea, .int fa, .ref aCo, .int (nI CM)])), (aS, .inl (cy 2, 89, .inl (encS σ))), (aCo, .inl (cy 2, 240, .inl g))] [(am, .inr (12, [.ref aS, .ref aBf, .ref aAs, .ref aSv, .int iS, .ref aPa, .int (nI K), .int th, .ref aOu, .int (nI OM), .ref aTx, .int (nI LN), .int (nI x.1), .int (bI x.2), .int ea, .int fa, .ref aCo, .int (nI CM)])), (aS, .inl (cy 2, 89, .inl (encS (disS (bx a) σ)))), (aCo, .inl (cy 2, 240, .inl g))] (none) := by
  refine WC.ofW (cc := cX8_does) (maxL := 6) (ret := none) (by decide) rfl (Nat.le_of_ble_eq_true rfl) ?_
  intro p e s m below meth cq S9 hr hlocks hPB hD hS ls hl
  obtain ⟨hxq, hb, hml, hown, hts⟩ := id S9
  obtain ⟨hP, hK⟩ := hPB
  have hl : lv_has ls 6 [(0, .ref am), (1, .int (nI i))] := hl
  have hP : va_P G vwCl [(am, .inr (12, [.ref aS, .ref aBf, .ref aAs, .ref aSv, .int iS, .ref aPa, .int (nI K), .int th, .ref aOu, .int (nI OM), .ref aTx, .int (nI LN), .int (nI x.1), .int (bI x.2), .int ea, .int fa, .ref aCo, .int (nI CM)])), (aS, .inl (cy 2, 89, .inl (encT (nB σ) (vB σ) (hB σ) (pB σ) (mB σ) (nD σ) (bD σ) (lD σ) (uD σ) (qD σ) (wD σ) (nE σ) (kE σ) (bE σ) (lE σ) (tT σ) (dT σ) (aT σ) (rT σ) (hT σ) (xT σ)))), (aCo, .inl (cy 2, 240, .inl g))] s.heap := hP
  have hD0 := hD
  have hD : va_D (wA [(am, .inr (12, [.ref aS, .ref aBf, .ref aAs, .ref aSv, .int iS, .ref aPa, .int (nI K), .int th, .ref aOu, .int (nI OM), .ref aTx, .int (nI LN), .int (nI x.1), .int (bI x.2), .int ea, .int fa, .ref aCo, .int (nI CM)])), (aS, .inl (cy 2, 89, .inl (encS σ))), (aCo, .inl (cy 2, 240, .inl g))]) [(am, .inr (12, [.ref aS, .ref aBf, .ref aAs, .ref aSv, .int iS, .ref aPa, .int (nI K), .int th, .ref aOu, .int (nI OM), .ref aTx, .int (nI LN), .int (nI x.1), .int (bI x.2), .int ea, .int fa, .ref aCo, .int (nI CM)])), (aS, .inl (cy 2, 89, .inl (encT (nB σ) (vB σ) (hB σ) (pB σ) (mB σ) (nD σ) (bD σ) (lD σ) (uD σ) (qD σ) (wD σ) (nE σ) (kE σ) (bE σ) (lE σ) (tT σ) (dT σ) (aT σ) (rT σ) (hT σ) (xT σ)))), (aCo, .inl (cy 2, 240, .inl g))] := hD
  have hi12 : ∀ w ∈ wsX80, w ∈ wsX8_does := by decide +kernel
  have hf39 := hts (.fieldLink RX8 39 "BathLeagueModel" "commands" "[I") (by decide +kernel)
  have hN0 := ho.1
  have hM0 := ho.2.1
  refine lv_aload_n hxq hb dX8_does_0 rfl (lv_at hl 0 rfl) ?_
  refine va_get (D := G) (ci := 12) (v := .ref aCo) (C := RX8) (T := TX8) (N := 18) hxq hb hts hi12 hown hK.1 hP 0 rfl rfl 16 (by decide) hf39 (fun _ h9 => h9) rfl dX8_does_1 ?_
  refine lv_iconst (v := 4) hxq hb dX8_does_4 (by decide) ?_
  refine lv_iload_n hxq hb dX8_does_5 rfl (lv_at hl 1 rfl) ?_
  refine lv_imul hxq hb dX8_does_6 ?_
  refine lv_iconst (v := 1) hxq hb dX8_does_7 (by decide) ?_
  refine lv_iadd hxq hb dX8_does_8 ?_
  refine m_iald hxq hb hK hP 2 (k := (4 * i) + 1) rfl (m_add (m_mul rfl rfl) rfl) (by omega) (Nat.le_of_ble_eq_true rfl) dX8_does_9 ?_
  refine lv_t0 (show g ((4 * i) + 1) = a from e1) ?_
  refine lv_istore_n (lv' := [(2, .int a), (0, .ref am), (1, .int (nI i))]) hxq hb dX8_does_10 rfl hl (by decide) rfl (fun ls hl => ?_)
  refine lv_aload_n hxq hb dX8_does_11 rfl (lv_at hl 1 rfl) ?_
  refine va_get (D := G) (ci := 12) (v := .ref aCo) (C := RX8) (T := TX8) (N := 18) hxq hb hts hi12 hown hK.1 hP 0 rfl rfl 16 (by decide) hf39 (fun _ h9 => h9) rfl dX8_does_12 ?_
  refine lv_iconst (v := 4) hxq hb dX8_does_15 (by decide) ?_
  refine lv_iload_n hxq hb dX8_does_16 rfl (lv_at hl 2 rfl) ?_
  refine lv_imul hxq hb dX8_does_17 ?_
  refine lv_iconst (v := 2) hxq hb dX8_does_18 (by decide) ?_
  refine lv_iadd hxq hb dX8_does_19 ?_
  refine m_iald hxq hb hK hP 2 (k := (4 * i) + 2) rfl (m_add (m_mul rfl rfl) rfl) (by omega) (Nat.le_of_ble_eq_true rfl) dX8_does_20 ?_
  refine lv_istore_n (lv' := [(3, .int (g ((4 * i) + 2))), (2, .int a), (0, .ref am), (1, .int (nI i))]) hxq hb dX8_does_21 rfl hl (by decide) rfl (fun ls hl => ?_)
  refine lv_aload_n hxq hb dX8_does_22 rfl (lv_at hl 2 rfl) ?_
  refine va_get (D := G) (ci := 12) (v := .ref aCo) (C := RX8) (T := TX8) (N := 18) hxq hb hts hi12 hown hK.1 hP 0 rfl rfl 16 (by decide) hf39 (fun _ h9 => h9) rfl dX8_does_23 ?_
  refine lv_iconst (v := 4) hxq hb dX8_does_26 (by decide) ?_
  refine lv_iload_n hxq hb dX8_does_27 rfl (lv_at hl 3 rfl) ?_
  refine lv_imul hxq hb dX8_does_28 ?_
  refine lv_iconst (v := 3) hxq hb dX8_does_29 (by decide) ?_
  refine lv_iadd hxq hb dX8_does_30 ?_
  refine m_iald hxq hb hK hP 2 (k := (4 * i) + 3) rfl (m_add (m_mul rfl rfl) rfl) (by omega) (Nat.le_of_ble_eq_true rfl) dX8_does_31 ?_
  refine lv_istore (lv' := [(4, .int (g ((4 * i) + 3))), (3, .int (g ((4 * i) + 2))), (2, .int a), (0, .ref am), (1, .int (nI i))]) hxq hb dX8_does_32 hl (by decide) rfl (fun ls hl => ?_)
  refine lv_aload_n hxq hb dX8_does_34 rfl (lv_at hl 3 rfl) ?_
  refine va_get (D := G) (ci := 12) (v := .ref aCo) (C := RX8) (T := TX8) (N := 18) hxq hb hts hi12 hown hK.1 hP 0 rfl rfl 16 (by decide) hf39 (fun _ h9 => h9) rfl dX8_does_35 ?_
  refine lv_iconst (v := 4) hxq hb dX8_does_38 (by decide) ?_
  refine lv_iload_n hxq hb dX8_does_39 rfl (lv_at hl 4 rfl) ?_
  refine lv_imul hxq hb dX8_does_40 ?_
  refine m_iald hxq hb hK hP 2 (k := 4 * i) rfl (m_mul rfl rfl) (by omega) (Nat.le_of_ble_eq_true rfl) dX8_does_41 ?_
  refine lv_t0 e0 ?_
  refine lv_tableIn (off := 157) (tgt := 199) hxq hb dX8_does_42 (by decide) (by decide) (by decide) (by decide) ?_
  refine lv_aload_n hxq hb dX8_does_199 rfl (lv_at hl 3 rfl) ?_
  refine lv_iload_n hxq hb dX8_does_200 rfl (lv_at hl 2 rfl) ?_
  refine c_wcVi (ws' := [(am, .inr (12, [.ref aS, .ref aBf, .ref aAs, .ref aSv, .int iS, .ref aPa, .int (nI K), .int th, .ref aOu, .int (nI OM), .ref aTx, .int (nI LN), .int (nI x.1), .int (bI x.2), .int ea, .int fa, .ref aCo, .int (nI CM)])), (aS, .inl (cy 2, 89, .inl (encT (nB σ) (vB σ) (hB σ) (pB σ) (upd (mB σ) (bx a) 0) (nD σ) (bD σ) (lD σ) (uD σ) (qD σ) (wD σ) (evc (nE σ)) (psh (kE σ) 108) (psh (bE σ) a) (psh (lE σ) (-1)) (tT σ) (dT σ) (aT σ) (rT σ) (hT σ) (xT σ)))), (aCo, .inl (cy 2, 240, .inl g))]) S9 (c_X8_doLeave_ok l G cy am aS aBf aAs aSv aPa aOu aTx aCo K OM LN x.1 CM iS th (bI x.2) ea fa (nB σ) (vB σ) (hB σ) (pB σ) (mB σ) (nD σ) (bD σ) (lD σ) (uD σ) (qD σ) (wD σ) (nE σ) (kE σ) (bE σ) (lE σ) (tT σ) (dT σ) (aT σ) (rT σ) (hT σ) (xT σ) a ho.1 ho.2.2.1 ho.m01 hF) (cwV 1 hts gX8_does_X8_doLeave rfl rfl rfl (by decide +kernel) ⟨Nat.le_of_ble_eq_true rfl, Nat.le_of_ble_eq_true rfl⟩) PB.blind (va_recv hK.1 hP (ci := 12) (q0 := 0) rfl rfl) (PB.at hK (m_Ppart hP [0, 1] rfl)) hP hD hS [0, 1] rfl rfl m_f2 rfl rfl hl.1 rfl (Nat.le_of_ble_eq_true rfl) ⟨Nat.zero_le _, Nat.zero_le _⟩ dX8_does_201 (fun H locs hP hD hS => ?_)
  have hP : va_P G vwCl [(am, .inr (12, [.ref aS, .ref aBf, .ref aAs, .ref aSv, .int iS, .ref aPa, .int (nI K), .int th, .ref aOu, .int (nI OM), .ref aTx, .int (nI LN), .int (nI x.1), .int (bI x.2), .int ea, .int fa, .ref aCo, .int (nI CM)])), (aS, .inl (cy 2, 89, .inl (encS (disS (bx a) σ)))), (aCo, .inl (cy 2, 240, .inl g))] H := by rw [show disS (bx a) σ = (((nB σ), (vB σ), (hB σ), (pB σ), (upd (mB σ) (bx a) 0)), ((nD σ), (bD σ), (lD σ), (uD σ), (qD σ), (wD σ)), ((evc (nE σ)), (psh (kE σ) 108), (psh (bE σ) a), (psh (lE σ) (-1))), ((tT σ), (dT σ), (aT σ), (rT σ), (hT σ), (xT σ))) from by unfold disS; rw [← hb9], encS_mk]; exact hP
  have hD : va_D (wA [(am, .inr (12, [.ref aS, .ref aBf, .ref aAs, .ref aSv, .int iS, .ref aPa, .int (nI K), .int th, .ref aOu, .int (nI OM), .ref aTx, .int (nI LN), .int (nI x.1), .int (bI x.2), .int ea, .int fa, .ref aCo, .int (nI CM)])), (aS, .inl (cy 2, 89, .inl (encS σ))), (aCo, .inl (cy 2, 240, .inl g))]) [(am, .inr (12, [.ref aS, .ref aBf, .ref aAs, .ref aSv, .int iS, .ref aPa, .int (nI K), .int th, .ref aOu, .int (nI OM), .ref aTx, .int (nI LN), .int (nI x.1), .int (bI x.2), .int ea, .int fa, .ref aCo, .int (nI CM)])), (aS, .inl (cy 2, 89, .inl (encS (disS (bx a) σ)))), (aCo, .inl (cy 2, 240, .inl g))] := m_D3 hD0
  have hP : va_P G vwCl [(am, .inr (12, [.ref aS, .ref aBf, .ref aAs, .ref aSv, .int iS, .ref aPa, .int (nI K), .int th, .ref aOu, .int (nI OM), .ref aTx, .int (nI LN), .int (nI x.1), .int (bI x.2), .int ea, .int fa, .ref aCo, .int (nI CM)])), (aS, .inl (cy 2, 89, .inl (encT (nB (disS (bx a) σ)) (vB (disS (bx a) σ)) (hB (disS (bx a) σ)) (pB (disS (bx a) σ)) (mB (disS (bx a) σ)) (nD (disS (bx a) σ)) (bD (disS (bx a) σ)) (lD (disS (bx a) σ)) (uD (disS (bx a) σ)) (qD (disS (bx a) σ)) (wD (disS (bx a) σ)) (nE (disS (bx a) σ)) (kE (disS (bx a) σ)) (bE (disS (bx a) σ)) (lE (disS (bx a) σ)) (tT (disS (bx a) σ)) (dT (disS (bx a) σ)) (aT (disS (bx a) σ)) (rT (disS (bx a) σ)) (hT (disS (bx a) σ)) (xT (disS (bx a) σ))))), (aCo, .inl (cy 2, 240, .inl g))] H := hP
  have hD : va_D (wA [(am, .inr (12, [.ref aS, .ref aBf, .ref aAs, .ref aSv, .int iS, .ref aPa, .int (nI K), .int th, .ref aOu, .int (nI OM), .ref aTx, .int (nI LN), .int (nI x.1), .int (bI x.2), .int ea, .int fa, .ref aCo, .int (nI CM)])), (aS, .inl (cy 2, 89, .inl (encS σ))), (aCo, .inl (cy 2, 240, .inl g))]) [(am, .inr (12, [.ref aS, .ref aBf, .ref aAs, .ref aSv, .int iS, .ref aPa, .int (nI K), .int th, .ref aOu, .int (nI OM), .ref aTx, .int (nI LN), .int (nI x.1), .int (bI x.2), .int ea, .int fa, .ref aCo, .int (nI CM)])), (aS, .inl (cy 2, 89, .inl (encT (nB (disS (bx a) σ)) (vB (disS (bx a) σ)) (hB (disS (bx a) σ)) (pB (disS (bx a) σ)) (mB (disS (bx a) σ)) (nD (disS (bx a) σ)) (bD (disS (bx a) σ)) (lD (disS (bx a) σ)) (uD (disS (bx a) σ)) (qD (disS (bx a) σ)) (wD (disS (bx a) σ)) (nE (disS (bx a) σ)) (kE (disS (bx a) σ)) (bE (disS (bx a) σ)) (lE (disS (bx a) σ)) (tT (disS (bx a) σ)) (dT (disS (bx a) σ)) (aT (disS (bx a) σ)) (rT (disS (bx a) σ)) (hT (disS (bx a) σ)) (xT (disS (bx a) σ))))), (aCo, .inl (cy 2, 240, .inl g))] := hD
  refine lv_istore (lv' := [(5, .int (cntM (upd (mB σ) (bx a) 0) (nB σ))), (4, .int (g ((4 * i) + 3))), (3, .int (g ((4 * i) + 2))), (2, .int a), (0, .ref am), (1, .int (nI i))]) hxq hb dX8_does_204 hl (by decide) rfl (fun ls hl => ?_)
  refine lv_goto (tgt := 215) hxq hb dX8_does_206 (by decide) ?_
  exact wc_vret hxq hb hr hlocks hP hS dX8_does_215

set_option maxRecDepth 100000 in
set_option maxHeartbeats 1000000 in
theorem c_X8_does_leave_no (l : Launch) (G : va_G) (cy : Nat → ClassId) (am aS aBf aAs aSv aPa aOu aTx aCo K OM LN CM : Nat) (iS th ea fa : Int32) (σ : St) (x : Lx) (g : Nat → Int32) (i : Nat) (a b c : Int32) (ho : Ok σ) (hi : i < 60) (e0 : g (4 * i) = 108) (e1 : g (4 * i + 1) = a) (hF : ¬ disF (nB σ) (mB σ) a = 0) : WC l yX8_does wsX8_does { frames := 6, cells := 0, slots := 0, locals := 136 } G (PB G cy [(am, .inr (12, [.ref aS, .ref aBf, .ref aAs, .ref aSv, .int iS, .ref aPa, .int (nI K), .int th, .ref aOu, .int (nI OM), .ref aTx, .int (nI LN), .int (nI x.1), .int (bI x.2), .int ea, .int fa, .ref aCo, .int (nI CM)])), (aS, .inl (cy 2, 89, .inl (encS σ))), (aCo, .inl (cy 2, 240, .inl g))]) [.ref am, .int (nI i)] [(am, .inr (12, [.ref aS, .ref aBf, .ref aAs, .ref aSv, .int iS, .ref aPa, .int (nI K), .int th, .ref aOu, .int (nI OM), .ref aTx, .int (nI LN), .int (nI x.1), .int (bI x.2), .int ea, .int fa, .ref aCo, .int (nI CM)])), (aS, .inl (cy 2, 89, .inl (encS σ))), (aCo, .inl (cy 2, 240, .inl g))] [(am, .inr (12, [.ref aS, .ref aBf, .ref aAs, .ref aSv, .int iS, .ref aPa, .int (nI K), .int (mcL (disF (nB σ) (mB σ) a)), .ref aOu, .int (nI OM), .ref aTx, .int (nI LN), .int (nI x.1), .int (bI x.2), .int ea, .int fa, .ref aCo, .int (nI CM)])), (aS, .inl (cy 2, 89, .inl (encS σ))), (aCo, .inl (cy 2, 240, .inl g))] (none) := by
  refine WC.ofW (cc := cX8_does) (maxL := 6) (ret := none) (by decide) rfl (Nat.le_of_ble_eq_true rfl) ?_
  intro p e s m below meth cq S9 hr hlocks hPB hD hS ls hl
  obtain ⟨hxq, hb, hml, hown, hts⟩ := id S9
  obtain ⟨hP, hK⟩ := hPB
  have hl : lv_has ls 6 [(0, .ref am), (1, .int (nI i))] := hl
  have hP : va_P G vwCl [(am, .inr (12, [.ref aS, .ref aBf, .ref aAs, .ref aSv, .int iS, .ref aPa, .int (nI K), .int th, .ref aOu, .int (nI OM), .ref aTx, .int (nI LN), .int (nI x.1), .int (bI x.2), .int ea, .int fa, .ref aCo, .int (nI CM)])), (aS, .inl (cy 2, 89, .inl (encT (nB σ) (vB σ) (hB σ) (pB σ) (mB σ) (nD σ) (bD σ) (lD σ) (uD σ) (qD σ) (wD σ) (nE σ) (kE σ) (bE σ) (lE σ) (tT σ) (dT σ) (aT σ) (rT σ) (hT σ) (xT σ)))), (aCo, .inl (cy 2, 240, .inl g))] s.heap := hP
  have hD0 := hD
  have hD : va_D (wA [(am, .inr (12, [.ref aS, .ref aBf, .ref aAs, .ref aSv, .int iS, .ref aPa, .int (nI K), .int th, .ref aOu, .int (nI OM), .ref aTx, .int (nI LN), .int (nI x.1), .int (bI x.2), .int ea, .int fa, .ref aCo, .int (nI CM)])), (aS, .inl (cy 2, 89, .inl (encS σ))), (aCo, .inl (cy 2, 240, .inl g))]) [(am, .inr (12, [.ref aS, .ref aBf, .ref aAs, .ref aSv, .int iS, .ref aPa, .int (nI K), .int th, .ref aOu, .int (nI OM), .ref aTx, .int (nI LN), .int (nI x.1), .int (bI x.2), .int ea, .int fa, .ref aCo, .int (nI CM)])), (aS, .inl (cy 2, 89, .inl (encT (nB σ) (vB σ) (hB σ) (pB σ) (mB σ) (nD σ) (bD σ) (lD σ) (uD σ) (qD σ) (wD σ) (nE σ) (kE σ) (bE σ) (lE σ) (tT σ) (dT σ) (aT σ) (rT σ) (hT σ) (xT σ)))), (aCo, .inl (cy 2, 240, .inl g))] := hD
  have hi12 : ∀ w ∈ wsX80, w ∈ wsX8_does := by decide +kernel
  have hf39 := hts (.fieldLink RX8 39 "BathLeagueModel" "commands" "[I") (by decide +kernel)
  have hN0 := ho.1
  have hM0 := ho.2.1
  refine lv_aload_n hxq hb dX8_does_0 rfl (lv_at hl 0 rfl) ?_
  refine va_get (D := G) (ci := 12) (v := .ref aCo) (C := RX8) (T := TX8) (N := 18) hxq hb hts hi12 hown hK.1 hP 0 rfl rfl 16 (by decide) hf39 (fun _ h9 => h9) rfl dX8_does_1 ?_
  refine lv_iconst (v := 4) hxq hb dX8_does_4 (by decide) ?_
  refine lv_iload_n hxq hb dX8_does_5 rfl (lv_at hl 1 rfl) ?_
  refine lv_imul hxq hb dX8_does_6 ?_
  refine lv_iconst (v := 1) hxq hb dX8_does_7 (by decide) ?_
  refine lv_iadd hxq hb dX8_does_8 ?_
  refine m_iald hxq hb hK hP 2 (k := (4 * i) + 1) rfl (m_add (m_mul rfl rfl) rfl) (by omega) (Nat.le_of_ble_eq_true rfl) dX8_does_9 ?_
  refine lv_t0 (show g ((4 * i) + 1) = a from e1) ?_
  refine lv_istore_n (lv' := [(2, .int a), (0, .ref am), (1, .int (nI i))]) hxq hb dX8_does_10 rfl hl (by decide) rfl (fun ls hl => ?_)
  refine lv_aload_n hxq hb dX8_does_11 rfl (lv_at hl 1 rfl) ?_
  refine va_get (D := G) (ci := 12) (v := .ref aCo) (C := RX8) (T := TX8) (N := 18) hxq hb hts hi12 hown hK.1 hP 0 rfl rfl 16 (by decide) hf39 (fun _ h9 => h9) rfl dX8_does_12 ?_
  refine lv_iconst (v := 4) hxq hb dX8_does_15 (by decide) ?_
  refine lv_iload_n hxq hb dX8_does_16 rfl (lv_at hl 2 rfl) ?_
  refine lv_imul hxq hb dX8_does_17 ?_
  refine lv_iconst (v := 2) hxq hb dX8_does_18 (by decide) ?_
  refine lv_iadd hxq hb dX8_does_19 ?_
  refine m_iald hxq hb hK hP 2 (k := (4 * i) + 2) rfl (m_add (m_mul rfl rfl) rfl) (by omega) (Nat.le_of_ble_eq_true rfl) dX8_does_20 ?_
  refine lv_istore_n (lv' := [(3, .int (g ((4 * i) + 2))), (2, .int a), (0, .ref am), (1, .int (nI i))]) hxq hb dX8_does_21 rfl hl (by decide) rfl (fun ls hl => ?_)
  refine lv_aload_n hxq hb dX8_does_22 rfl (lv_at hl 2 rfl) ?_
  refine va_get (D := G) (ci := 12) (v := .ref aCo) (C := RX8) (T := TX8) (N := 18) hxq hb hts hi12 hown hK.1 hP 0 rfl rfl 16 (by decide) hf39 (fun _ h9 => h9) rfl dX8_does_23 ?_
  refine lv_iconst (v := 4) hxq hb dX8_does_26 (by decide) ?_
  refine lv_iload_n hxq hb dX8_does_27 rfl (lv_at hl 3 rfl) ?_
  refine lv_imul hxq hb dX8_does_28 ?_
  refine lv_iconst (v := 3) hxq hb dX8_does_29 (by decide) ?_
  refine lv_iadd hxq hb dX8_does_30 ?_
  refine m_iald hxq hb hK hP 2 (k := (4 * i) + 3) rfl (m_add (m_mul rfl rfl) rfl) (by omega) (Nat.le_of_ble_eq_true rfl) dX8_does_31 ?_
  refine lv_istore (lv' := [(4, .int (g ((4 * i) + 3))), (3, .int (g ((4 * i) + 2))), (2, .int a), (0, .ref am), (1, .int (nI i))]) hxq hb dX8_does_32 hl (by decide) rfl (fun ls hl => ?_)
  refine lv_aload_n hxq hb dX8_does_34 rfl (lv_at hl 3 rfl) ?_
  refine va_get (D := G) (ci := 12) (v := .ref aCo) (C := RX8) (T := TX8) (N := 18) hxq hb hts hi12 hown hK.1 hP 0 rfl rfl 16 (by decide) hf39 (fun _ h9 => h9) rfl dX8_does_35 ?_
  refine lv_iconst (v := 4) hxq hb dX8_does_38 (by decide) ?_
  refine lv_iload_n hxq hb dX8_does_39 rfl (lv_at hl 4 rfl) ?_
  refine lv_imul hxq hb dX8_does_40 ?_
  refine m_iald hxq hb hK hP 2 (k := 4 * i) rfl (m_mul rfl rfl) (by omega) (Nat.le_of_ble_eq_true rfl) dX8_does_41 ?_
  refine lv_t0 e0 ?_
  refine lv_tableIn (off := 157) (tgt := 199) hxq hb dX8_does_42 (by decide) (by decide) (by decide) (by decide) ?_
  refine lv_aload_n hxq hb dX8_does_199 rfl (lv_at hl 3 rfl) ?_
  refine lv_iload_n hxq hb dX8_does_200 rfl (lv_at hl 2 rfl) ?_
  refine c_wcVi (ws' := [(am, .inr (12, [.ref aS, .ref aBf, .ref aAs, .ref aSv, .int iS, .ref aPa, .int (nI K), .int (mcL (disF (nB σ) (mB σ) a)), .ref aOu, .int (nI OM), .ref aTx, .int (nI LN), .int (nI x.1), .int (bI x.2), .int ea, .int fa, .ref aCo, .int (nI CM)])), (aS, .inl (cy 2, 89, .inl (encT (nB σ) (vB σ) (hB σ) (pB σ) (mB σ) (nD σ) (bD σ) (lD σ) (uD σ) (qD σ) (wD σ) (nE σ) (kE σ) (bE σ) (lE σ) (tT σ) (dT σ) (aT σ) (rT σ) (hT σ) (xT σ)))), (aCo, .inl (cy 2, 240, .inl g))]) S9 (c_X8_doLeave_no l G cy am aS aBf aAs aSv aPa aOu aTx aCo K OM LN x.1 CM iS th (bI x.2) ea fa (nB σ) (vB σ) (hB σ) (pB σ) (mB σ) (nD σ) (bD σ) (lD σ) (uD σ) (qD σ) (wD σ) (nE σ) (kE σ) (bE σ) (lE σ) (tT σ) (dT σ) (aT σ) (rT σ) (hT σ) (xT σ) a ho.1 ho.2.2.1 ho.m01 hF) (cwV 1 hts gX8_does_X8_doLeave rfl rfl rfl (by decide +kernel) ⟨Nat.le_of_ble_eq_true rfl, Nat.le_of_ble_eq_true rfl⟩) PB.blind (va_recv hK.1 hP (ci := 12) (q0 := 0) rfl rfl) (PB.at hK (m_Ppart hP [0, 1] rfl)) hP hD hS [0, 1] rfl rfl m_f2 rfl rfl hl.1 rfl (Nat.le_of_ble_eq_true rfl) ⟨Nat.zero_le _, Nat.zero_le _⟩ dX8_does_201 (fun H locs hP hD hS => ?_)
  refine lv_istore (lv' := [(5, .int 0), (4, .int (g ((4 * i) + 3))), (3, .int (g ((4 * i) + 2))), (2, .int a), (0, .ref am), (1, .int (nI i))]) hxq hb dX8_does_204 hl (by decide) rfl (fun ls hl => ?_)
  refine lv_goto (tgt := 215) hxq hb dX8_does_206 (by decide) ?_
  exact wc_vret hxq hb hr hlocks hP hS dX8_does_215

set_option maxRecDepth 100000 in
set_option maxHeartbeats 1000000 in
theorem c_X8_does_bath_ok (l : Launch) (G : va_G) (cy : Nat → ClassId) (am aS aBf aAs aSv aPa aOu aTx aCo K OM LN CM : Nat) (iS th ea fa : Int32) (σ : St) (x : Lx) (g : Nat → Int32) (i : Nat) (a b c : Int32) (ho : Ok σ) (hi : i < 60) (e0 : g (4 * i) = 98) (hv0 : vB σ (nB σ) = 0) (hh0 : hB σ (nB σ) = 0) (hm0 : mB σ (nB σ) = 0) (hF : (if nB σ < 5 then (0 : Int32) else 3) = 0) : WC l yX8_does wsX8_does { frames := 6, cells := 0, slots := 0, locals := 136 } G (PB G cy [(am, .inr (12, [.ref aS, .ref aBf, .ref aAs, .ref aSv, .int iS, .ref aPa, .int (nI K), .int th, .ref aOu, .int (nI OM), .ref aTx, .int (nI LN), .int (nI x.1), .int (bI x.2), .int ea, .int fa, .ref aCo, .int (nI CM)])), (aS, .inl (cy 2, 89, .inl (encS σ))), (aCo, .inl (cy 2, 240, .inl g))]) [.ref am, .int (nI i)] [(am, .inr (12, [.ref aS, .ref aBf, .ref aAs, .ref aSv, .int iS, .ref aPa, .int (nI K), .int th, .ref aOu, .int (nI OM), .ref aTx, .int (nI LN), .int (nI x.1), .int (bI x.2), .int ea, .int fa, .ref aCo, .int (nI CM)])), (aS, .inl (cy 2, 89, .inl (encS σ))), (aCo, .inl (cy 2, 240, .inl g))] [(am, .inr (12, [.ref aS, .ref aBf, .ref aAs, .ref aSv, .int iS, .ref aPa, .int (nI K), .int th, .ref aOu, .int (nI OM), .ref aTx, .int (nI LN), .int (nI x.1), .int (bI x.2), .int ea, .int fa, .ref aCo, .int (nI CM)])), (aS, .inl (cy 2, 89, .inl (encS (plcS σ)))), (aCo, .inl (cy 2, 240, .inl g))] (none) := by
  refine WC.ofW (cc := cX8_does) (maxL := 6) (ret := none) (by decide) rfl (Nat.le_of_ble_eq_true rfl) ?_
  intro p e s m below meth cq S9 hr hlocks hPB hD hS ls hl
  obtain ⟨hxq, hb, hml, hown, hts⟩ := id S9
  obtain ⟨hP, hK⟩ := hPB
  have hl : lv_has ls 6 [(0, .ref am), (1, .int (nI i))] := hl
  have hP : va_P G vwCl [(am, .inr (12, [.ref aS, .ref aBf, .ref aAs, .ref aSv, .int iS, .ref aPa, .int (nI K), .int th, .ref aOu, .int (nI OM), .ref aTx, .int (nI LN), .int (nI x.1), .int (bI x.2), .int ea, .int fa, .ref aCo, .int (nI CM)])), (aS, .inl (cy 2, 89, .inl (encT (nB σ) (vB σ) (hB σ) (pB σ) (mB σ) (nD σ) (bD σ) (lD σ) (uD σ) (qD σ) (wD σ) (nE σ) (kE σ) (bE σ) (lE σ) (tT σ) (dT σ) (aT σ) (rT σ) (hT σ) (xT σ)))), (aCo, .inl (cy 2, 240, .inl g))] s.heap := hP
  have hD0 := hD
  have hD : va_D (wA [(am, .inr (12, [.ref aS, .ref aBf, .ref aAs, .ref aSv, .int iS, .ref aPa, .int (nI K), .int th, .ref aOu, .int (nI OM), .ref aTx, .int (nI LN), .int (nI x.1), .int (bI x.2), .int ea, .int fa, .ref aCo, .int (nI CM)])), (aS, .inl (cy 2, 89, .inl (encS σ))), (aCo, .inl (cy 2, 240, .inl g))]) [(am, .inr (12, [.ref aS, .ref aBf, .ref aAs, .ref aSv, .int iS, .ref aPa, .int (nI K), .int th, .ref aOu, .int (nI OM), .ref aTx, .int (nI LN), .int (nI x.1), .int (bI x.2), .int ea, .int fa, .ref aCo, .int (nI CM)])), (aS, .inl (cy 2, 89, .inl (encT (nB σ) (vB σ) (hB σ) (pB σ) (mB σ) (nD σ) (bD σ) (lD σ) (uD σ) (qD σ) (wD σ) (nE σ) (kE σ) (bE σ) (lE σ) (tT σ) (dT σ) (aT σ) (rT σ) (hT σ) (xT σ)))), (aCo, .inl (cy 2, 240, .inl g))] := hD
  have hi12 : ∀ w ∈ wsX80, w ∈ wsX8_does := by decide +kernel
  have hf39 := hts (.fieldLink RX8 39 "BathLeagueModel" "commands" "[I") (by decide +kernel)
  have hN0 := ho.1
  have hM0 := ho.2.1
  refine lv_aload_n hxq hb dX8_does_0 rfl (lv_at hl 0 rfl) ?_
  refine va_get (D := G) (ci := 12) (v := .ref aCo) (C := RX8) (T := TX8) (N := 18) hxq hb hts hi12 hown hK.1 hP 0 rfl rfl 16 (by decide) hf39 (fun _ h9 => h9) rfl dX8_does_1 ?_
  refine lv_iconst (v := 4) hxq hb dX8_does_4 (by decide) ?_
  refine lv_iload_n hxq hb dX8_does_5 rfl (lv_at hl 1 rfl) ?_
  refine lv_imul hxq hb dX8_does_6 ?_
  refine lv_iconst (v := 1) hxq hb dX8_does_7 (by decide) ?_
  refine lv_iadd hxq hb dX8_does_8 ?_
  refine m_iald hxq hb hK hP 2 (k := (4 * i) + 1) rfl (m_add (m_mul rfl rfl) rfl) (by omega) (Nat.le_of_ble_eq_true rfl) dX8_does_9 ?_
  refine lv_istore_n (lv' := [(2, .int (g ((4 * i) + 1))), (0, .ref am), (1, .int (nI i))]) hxq hb dX8_does_10 rfl hl (by decide) rfl (fun ls hl => ?_)
  refine lv_aload_n hxq hb dX8_does_11 rfl (lv_at hl 1 rfl) ?_
  refine va_get (D := G) (ci := 12) (v := .ref aCo) (C := RX8) (T := TX8) (N := 18) hxq hb hts hi12 hown hK.1 hP 0 rfl rfl 16 (by decide) hf39 (fun _ h9 => h9) rfl dX8_does_12 ?_
  refine lv_iconst (v := 4) hxq hb dX8_does_15 (by decide) ?_
  refine lv_iload_n hxq hb dX8_does_16 rfl (lv_at hl 2 rfl) ?_
  refine lv_imul hxq hb dX8_does_17 ?_
  refine lv_iconst (v := 2) hxq hb dX8_does_18 (by decide) ?_
  refine lv_iadd hxq hb dX8_does_19 ?_
  refine m_iald hxq hb hK hP 2 (k := (4 * i) + 2) rfl (m_add (m_mul rfl rfl) rfl) (by omega) (Nat.le_of_ble_eq_true rfl) dX8_does_20 ?_
  refine lv_istore_n (lv' := [(3, .int (g ((4 * i) + 2))), (2, .int (g ((4 * i) + 1))), (0, .ref am), (1, .int (nI i))]) hxq hb dX8_does_21 rfl hl (by decide) rfl (fun ls hl => ?_)
  refine lv_aload_n hxq hb dX8_does_22 rfl (lv_at hl 2 rfl) ?_
  refine va_get (D := G) (ci := 12) (v := .ref aCo) (C := RX8) (T := TX8) (N := 18) hxq hb hts hi12 hown hK.1 hP 0 rfl rfl 16 (by decide) hf39 (fun _ h9 => h9) rfl dX8_does_23 ?_
  refine lv_iconst (v := 4) hxq hb dX8_does_26 (by decide) ?_
  refine lv_iload_n hxq hb dX8_does_27 rfl (lv_at hl 3 rfl) ?_
  refine lv_imul hxq hb dX8_does_28 ?_
  refine lv_iconst (v := 3) hxq hb dX8_does_29 (by decide) ?_
  refine lv_iadd hxq hb dX8_does_30 ?_
  refine m_iald hxq hb hK hP 2 (k := (4 * i) + 3) rfl (m_add (m_mul rfl rfl) rfl) (by omega) (Nat.le_of_ble_eq_true rfl) dX8_does_31 ?_
  refine lv_istore (lv' := [(4, .int (g ((4 * i) + 3))), (3, .int (g ((4 * i) + 2))), (2, .int (g ((4 * i) + 1))), (0, .ref am), (1, .int (nI i))]) hxq hb dX8_does_32 hl (by decide) rfl (fun ls hl => ?_)
  refine lv_aload_n hxq hb dX8_does_34 rfl (lv_at hl 3 rfl) ?_
  refine va_get (D := G) (ci := 12) (v := .ref aCo) (C := RX8) (T := TX8) (N := 18) hxq hb hts hi12 hown hK.1 hP 0 rfl rfl 16 (by decide) hf39 (fun _ h9 => h9) rfl dX8_does_35 ?_
  refine lv_iconst (v := 4) hxq hb dX8_does_38 (by decide) ?_
  refine lv_iload_n hxq hb dX8_does_39 rfl (lv_at hl 4 rfl) ?_
  refine lv_imul hxq hb dX8_does_40 ?_
  refine m_iald hxq hb hK hP 2 (k := 4 * i) rfl (m_mul rfl rfl) (by omega) (Nat.le_of_ble_eq_true rfl) dX8_does_41 ?_
  refine lv_t0 e0 ?_
  refine lv_tableIn (off := 167) (tgt := 209) hxq hb dX8_does_42 (by decide) (by decide) (by decide) (by decide) ?_
  refine lv_aload_n hxq hb dX8_does_209 rfl (lv_at hl 3 rfl) ?_
  refine c_wcVi (ws' := [(am, .inr (12, [.ref aS, .ref aBf, .ref aAs, .ref aSv, .int iS, .ref aPa, .int (nI K), .int th, .ref aOu, .int (nI OM), .ref aTx, .int (nI LN), .int (nI x.1), .int (bI x.2), .int ea, .int fa, .ref aCo, .int (nI CM)])), (aS, .inl (cy 2, 89, .inl (encT ((nB σ) + 1) (upd (vB σ) (nB σ) 0) (upd (hB σ) (nB σ) 0) (upd (pB σ) (nB σ) 1) (upd (mB σ) (nB σ) 0) (nD σ) (bD σ) (lD σ) (uD σ) (qD σ) (wD σ) (nE σ) (kE σ) (bE σ) (lE σ) (tT σ) (dT σ) (aT σ) (rT σ) (hT σ) (xT σ)))), (aCo, .inl (cy 2, 240, .inl g))]) S9 (c_X8_doAddBath_ok l G cy am aS aBf aAs aSv aPa aOu aTx aCo K OM LN x.1 CM iS th (bI x.2) ea fa (nB σ) (vB σ) (hB σ) (pB σ) (mB σ) (nD σ) (bD σ) (lD σ) (uD σ) (qD σ) (wD σ) (nE σ) (kE σ) (bE σ) (lE σ) (tT σ) (dT σ) (aT σ) (rT σ) (hT σ) (xT σ) ho.1 hF) (cwV 0 hts gX8_does_X8_doAddBath rfl rfl rfl (by decide +kernel) ⟨Nat.le_of_ble_eq_true rfl, Nat.le_of_ble_eq_true rfl⟩) PB.blind (va_recv hK.1 hP (ci := 12) (q0 := 0) rfl rfl) (PB.at hK (m_Ppart hP [0, 1] rfl)) hP hD hS [0, 1] rfl rfl m_f2 rfl rfl hl.1 rfl (Nat.le_of_ble_eq_true rfl) ⟨Nat.zero_le _, Nat.zero_le _⟩ dX8_does_210 (fun H locs hP hD hS => ?_)
  have hP : va_P G vwCl [(am, .inr (12, [.ref aS, .ref aBf, .ref aAs, .ref aSv, .int iS, .ref aPa, .int (nI K), .int th, .ref aOu, .int (nI OM), .ref aTx, .int (nI LN), .int (nI x.1), .int (bI x.2), .int ea, .int fa, .ref aCo, .int (nI CM)])), (aS, .inl (cy 2, 89, .inl (encS (plcS σ)))), (aCo, .inl (cy 2, 240, .inl g))] H := by rw [show plcS σ = ((((nB σ) + 1), (upd (vB σ) (nB σ) 0), (upd (hB σ) (nB σ) 0), (upd (pB σ) (nB σ) 1), (upd (mB σ) (nB σ) 0)), ((nD σ), (bD σ), (lD σ), (uD σ), (qD σ), (wD σ)), ((nE σ), (kE σ), (bE σ), (lE σ)), ((tT σ), (dT σ), (aT σ), (rT σ), (hT σ), (xT σ))) from by rw [m_updz hv0, m_updz hh0, m_updz hm0]; rfl, encS_mk]; exact hP
  have hD : va_D (wA [(am, .inr (12, [.ref aS, .ref aBf, .ref aAs, .ref aSv, .int iS, .ref aPa, .int (nI K), .int th, .ref aOu, .int (nI OM), .ref aTx, .int (nI LN), .int (nI x.1), .int (bI x.2), .int ea, .int fa, .ref aCo, .int (nI CM)])), (aS, .inl (cy 2, 89, .inl (encS σ))), (aCo, .inl (cy 2, 240, .inl g))]) [(am, .inr (12, [.ref aS, .ref aBf, .ref aAs, .ref aSv, .int iS, .ref aPa, .int (nI K), .int th, .ref aOu, .int (nI OM), .ref aTx, .int (nI LN), .int (nI x.1), .int (bI x.2), .int ea, .int fa, .ref aCo, .int (nI CM)])), (aS, .inl (cy 2, 89, .inl (encS (plcS σ)))), (aCo, .inl (cy 2, 240, .inl g))] := m_D3 hD0
  have hP : va_P G vwCl [(am, .inr (12, [.ref aS, .ref aBf, .ref aAs, .ref aSv, .int iS, .ref aPa, .int (nI K), .int th, .ref aOu, .int (nI OM), .ref aTx, .int (nI LN), .int (nI x.1), .int (bI x.2), .int ea, .int fa, .ref aCo, .int (nI CM)])), (aS, .inl (cy 2, 89, .inl (encT (nB (plcS σ)) (vB (plcS σ)) (hB (plcS σ)) (pB (plcS σ)) (mB (plcS σ)) (nD (plcS σ)) (bD (plcS σ)) (lD (plcS σ)) (uD (plcS σ)) (qD (plcS σ)) (wD (plcS σ)) (nE (plcS σ)) (kE (plcS σ)) (bE (plcS σ)) (lE (plcS σ)) (tT (plcS σ)) (dT (plcS σ)) (aT (plcS σ)) (rT (plcS σ)) (hT (plcS σ)) (xT (plcS σ))))), (aCo, .inl (cy 2, 240, .inl g))] H := hP
  have hD : va_D (wA [(am, .inr (12, [.ref aS, .ref aBf, .ref aAs, .ref aSv, .int iS, .ref aPa, .int (nI K), .int th, .ref aOu, .int (nI OM), .ref aTx, .int (nI LN), .int (nI x.1), .int (bI x.2), .int ea, .int fa, .ref aCo, .int (nI CM)])), (aS, .inl (cy 2, 89, .inl (encS σ))), (aCo, .inl (cy 2, 240, .inl g))]) [(am, .inr (12, [.ref aS, .ref aBf, .ref aAs, .ref aSv, .int iS, .ref aPa, .int (nI K), .int th, .ref aOu, .int (nI OM), .ref aTx, .int (nI LN), .int (nI x.1), .int (bI x.2), .int ea, .int fa, .ref aCo, .int (nI CM)])), (aS, .inl (cy 2, 89, .inl (encT (nB (plcS σ)) (vB (plcS σ)) (hB (plcS σ)) (pB (plcS σ)) (mB (plcS σ)) (nD (plcS σ)) (bD (plcS σ)) (lD (plcS σ)) (uD (plcS σ)) (qD (plcS σ)) (wD (plcS σ)) (nE (plcS σ)) (kE (plcS σ)) (bE (plcS σ)) (lE (plcS σ)) (tT (plcS σ)) (dT (plcS σ)) (aT (plcS σ)) (rT (plcS σ)) (hT (plcS σ)) (xT (plcS σ))))), (aCo, .inl (cy 2, 240, .inl g))] := hD
  refine lv_istore (lv' := [(5, .int (nI (nB σ))), (4, .int (g ((4 * i) + 3))), (3, .int (g ((4 * i) + 2))), (2, .int (g ((4 * i) + 1))), (0, .ref am), (1, .int (nI i))]) hxq hb dX8_does_213 hl (by decide) rfl (fun ls hl => ?_)
  exact wc_vret hxq hb hr hlocks hP hS dX8_does_215

set_option maxRecDepth 100000 in
set_option maxHeartbeats 1000000 in
theorem c_X8_does_bath_no (l : Launch) (G : va_G) (cy : Nat → ClassId) (am aS aBf aAs aSv aPa aOu aTx aCo K OM LN CM : Nat) (iS th ea fa : Int32) (σ : St) (x : Lx) (g : Nat → Int32) (i : Nat) (a b c : Int32) (ho : Ok σ) (hi : i < 60) (e0 : g (4 * i) = 98) (hF : ¬ (if nB σ < 5 then (0 : Int32) else 3) = 0) : WC l yX8_does wsX8_does { frames := 6, cells := 0, slots := 0, locals := 136 } G (PB G cy [(am, .inr (12, [.ref aS, .ref aBf, .ref aAs, .ref aSv, .int iS, .ref aPa, .int (nI K), .int th, .ref aOu, .int (nI OM), .ref aTx, .int (nI LN), .int (nI x.1), .int (bI x.2), .int ea, .int fa, .ref aCo, .int (nI CM)])), (aS, .inl (cy 2, 89, .inl (encS σ))), (aCo, .inl (cy 2, 240, .inl g))]) [.ref am, .int (nI i)] [(am, .inr (12, [.ref aS, .ref aBf, .ref aAs, .ref aSv, .int iS, .ref aPa, .int (nI K), .int th, .ref aOu, .int (nI OM), .ref aTx, .int (nI LN), .int (nI x.1), .int (bI x.2), .int ea, .int fa, .ref aCo, .int (nI CM)])), (aS, .inl (cy 2, 89, .inl (encS σ))), (aCo, .inl (cy 2, 240, .inl g))] [(am, .inr (12, [.ref aS, .ref aBf, .ref aAs, .ref aSv, .int iS, .ref aPa, .int (nI K), .int 1, .ref aOu, .int (nI OM), .ref aTx, .int (nI LN), .int (nI x.1), .int (bI x.2), .int ea, .int fa, .ref aCo, .int (nI CM)])), (aS, .inl (cy 2, 89, .inl (encS σ))), (aCo, .inl (cy 2, 240, .inl g))] (none) := by
  refine WC.ofW (cc := cX8_does) (maxL := 6) (ret := none) (by decide) rfl (Nat.le_of_ble_eq_true rfl) ?_
  intro p e s m below meth cq S9 hr hlocks hPB hD hS ls hl
  obtain ⟨hxq, hb, hml, hown, hts⟩ := id S9
  obtain ⟨hP, hK⟩ := hPB
  have hl : lv_has ls 6 [(0, .ref am), (1, .int (nI i))] := hl
  have hP : va_P G vwCl [(am, .inr (12, [.ref aS, .ref aBf, .ref aAs, .ref aSv, .int iS, .ref aPa, .int (nI K), .int th, .ref aOu, .int (nI OM), .ref aTx, .int (nI LN), .int (nI x.1), .int (bI x.2), .int ea, .int fa, .ref aCo, .int (nI CM)])), (aS, .inl (cy 2, 89, .inl (encT (nB σ) (vB σ) (hB σ) (pB σ) (mB σ) (nD σ) (bD σ) (lD σ) (uD σ) (qD σ) (wD σ) (nE σ) (kE σ) (bE σ) (lE σ) (tT σ) (dT σ) (aT σ) (rT σ) (hT σ) (xT σ)))), (aCo, .inl (cy 2, 240, .inl g))] s.heap := hP
  have hD0 := hD
  have hD : va_D (wA [(am, .inr (12, [.ref aS, .ref aBf, .ref aAs, .ref aSv, .int iS, .ref aPa, .int (nI K), .int th, .ref aOu, .int (nI OM), .ref aTx, .int (nI LN), .int (nI x.1), .int (bI x.2), .int ea, .int fa, .ref aCo, .int (nI CM)])), (aS, .inl (cy 2, 89, .inl (encS σ))), (aCo, .inl (cy 2, 240, .inl g))]) [(am, .inr (12, [.ref aS, .ref aBf, .ref aAs, .ref aSv, .int iS, .ref aPa, .int (nI K), .int th, .ref aOu, .int (nI OM), .ref aTx, .int (nI LN), .int (nI x.1), .int (bI x.2), .int ea, .int fa, .ref aCo, .int (nI CM)])), (aS, .inl (cy 2, 89, .inl (encT (nB σ) (vB σ) (hB σ) (pB σ) (mB σ) (nD σ) (bD σ) (lD σ) (uD σ) (qD σ) (wD σ) (nE σ) (kE σ) (bE σ) (lE σ) (tT σ) (dT σ) (aT σ) (rT σ) (hT σ) (xT σ)))), (aCo, .inl (cy 2, 240, .inl g))] := hD
  have hi12 : ∀ w ∈ wsX80, w ∈ wsX8_does := by decide +kernel
  have hf39 := hts (.fieldLink RX8 39 "BathLeagueModel" "commands" "[I") (by decide +kernel)
  have hN0 := ho.1
  have hM0 := ho.2.1
  refine lv_aload_n hxq hb dX8_does_0 rfl (lv_at hl 0 rfl) ?_
  refine va_get (D := G) (ci := 12) (v := .ref aCo) (C := RX8) (T := TX8) (N := 18) hxq hb hts hi12 hown hK.1 hP 0 rfl rfl 16 (by decide) hf39 (fun _ h9 => h9) rfl dX8_does_1 ?_
  refine lv_iconst (v := 4) hxq hb dX8_does_4 (by decide) ?_
  refine lv_iload_n hxq hb dX8_does_5 rfl (lv_at hl 1 rfl) ?_
  refine lv_imul hxq hb dX8_does_6 ?_
  refine lv_iconst (v := 1) hxq hb dX8_does_7 (by decide) ?_
  refine lv_iadd hxq hb dX8_does_8 ?_
  refine m_iald hxq hb hK hP 2 (k := (4 * i) + 1) rfl (m_add (m_mul rfl rfl) rfl) (by omega) (Nat.le_of_ble_eq_true rfl) dX8_does_9 ?_
  refine lv_istore_n (lv' := [(2, .int (g ((4 * i) + 1))), (0, .ref am), (1, .int (nI i))]) hxq hb dX8_does_10 rfl hl (by decide) rfl (fun ls hl => ?_)
  refine lv_aload_n hxq hb dX8_does_11 rfl (lv_at hl 1 rfl) ?_
  refine va_get (D := G) (ci := 12) (v := .ref aCo) (C := RX8) (T := TX8) (N := 18) hxq hb hts hi12 hown hK.1 hP 0 rfl rfl 16 (by decide) hf39 (fun _ h9 => h9) rfl dX8_does_12 ?_
  refine lv_iconst (v := 4) hxq hb dX8_does_15 (by decide) ?_
  refine lv_iload_n hxq hb dX8_does_16 rfl (lv_at hl 2 rfl) ?_
  refine lv_imul hxq hb dX8_does_17 ?_
  refine lv_iconst (v := 2) hxq hb dX8_does_18 (by decide) ?_
  refine lv_iadd hxq hb dX8_does_19 ?_
  refine m_iald hxq hb hK hP 2 (k := (4 * i) + 2) rfl (m_add (m_mul rfl rfl) rfl) (by omega) (Nat.le_of_ble_eq_true rfl) dX8_does_20 ?_
  refine lv_istore_n (lv' := [(3, .int (g ((4 * i) + 2))), (2, .int (g ((4 * i) + 1))), (0, .ref am), (1, .int (nI i))]) hxq hb dX8_does_21 rfl hl (by decide) rfl (fun ls hl => ?_)
  refine lv_aload_n hxq hb dX8_does_22 rfl (lv_at hl 2 rfl) ?_
  refine va_get (D := G) (ci := 12) (v := .ref aCo) (C := RX8) (T := TX8) (N := 18) hxq hb hts hi12 hown hK.1 hP 0 rfl rfl 16 (by decide) hf39 (fun _ h9 => h9) rfl dX8_does_23 ?_
  refine lv_iconst (v := 4) hxq hb dX8_does_26 (by decide) ?_
  refine lv_iload_n hxq hb dX8_does_27 rfl (lv_at hl 3 rfl) ?_
  refine lv_imul hxq hb dX8_does_28 ?_
  refine lv_iconst (v := 3) hxq hb dX8_does_29 (by decide) ?_
  refine lv_iadd hxq hb dX8_does_30 ?_
  refine m_iald hxq hb hK hP 2 (k := (4 * i) + 3) rfl (m_add (m_mul rfl rfl) rfl) (by omega) (Nat.le_of_ble_eq_true rfl) dX8_does_31 ?_
  refine lv_istore (lv' := [(4, .int (g ((4 * i) + 3))), (3, .int (g ((4 * i) + 2))), (2, .int (g ((4 * i) + 1))), (0, .ref am), (1, .int (nI i))]) hxq hb dX8_does_32 hl (by decide) rfl (fun ls hl => ?_)
  refine lv_aload_n hxq hb dX8_does_34 rfl (lv_at hl 3 rfl) ?_
  refine va_get (D := G) (ci := 12) (v := .ref aCo) (C := RX8) (T := TX8) (N := 18) hxq hb hts hi12 hown hK.1 hP 0 rfl rfl 16 (by decide) hf39 (fun _ h9 => h9) rfl dX8_does_35 ?_
  refine lv_iconst (v := 4) hxq hb dX8_does_38 (by decide) ?_
  refine lv_iload_n hxq hb dX8_does_39 rfl (lv_at hl 4 rfl) ?_
  refine lv_imul hxq hb dX8_does_40 ?_
  refine m_iald hxq hb hK hP 2 (k := 4 * i) rfl (m_mul rfl rfl) (by omega) (Nat.le_of_ble_eq_true rfl) dX8_does_41 ?_
  refine lv_t0 e0 ?_
  refine lv_tableIn (off := 167) (tgt := 209) hxq hb dX8_does_42 (by decide) (by decide) (by decide) (by decide) ?_
  refine lv_aload_n hxq hb dX8_does_209 rfl (lv_at hl 3 rfl) ?_
  refine c_wcVi (ws' := [(am, .inr (12, [.ref aS, .ref aBf, .ref aAs, .ref aSv, .int iS, .ref aPa, .int (nI K), .int 1, .ref aOu, .int (nI OM), .ref aTx, .int (nI LN), .int (nI x.1), .int (bI x.2), .int ea, .int fa, .ref aCo, .int (nI CM)])), (aS, .inl (cy 2, 89, .inl (encT (nB σ) (vB σ) (hB σ) (pB σ) (mB σ) (nD σ) (bD σ) (lD σ) (uD σ) (qD σ) (wD σ) (nE σ) (kE σ) (bE σ) (lE σ) (tT σ) (dT σ) (aT σ) (rT σ) (hT σ) (xT σ)))), (aCo, .inl (cy 2, 240, .inl g))]) S9 (c_X8_doAddBath_no l G cy am aS aBf aAs aSv aPa aOu aTx aCo K OM LN x.1 CM iS th (bI x.2) ea fa (nB σ) (vB σ) (hB σ) (pB σ) (mB σ) (nD σ) (bD σ) (lD σ) (uD σ) (qD σ) (wD σ) (nE σ) (kE σ) (bE σ) (lE σ) (tT σ) (dT σ) (aT σ) (rT σ) (hT σ) (xT σ) ho.1 hF) (cwV 0 hts gX8_does_X8_doAddBath rfl rfl rfl (by decide +kernel) ⟨Nat.le_of_ble_eq_true rfl, Nat.le_of_ble_eq_true rfl⟩) PB.blind (va_recv hK.1 hP (ci := 12) (q0 := 0) rfl rfl) (PB.at hK (m_Ppart hP [0, 1] rfl)) hP hD hS [0, 1] rfl rfl m_f2 rfl rfl hl.1 rfl (Nat.le_of_ble_eq_true rfl) ⟨Nat.zero_le _, Nat.zero_le _⟩ dX8_does_210 (fun H locs hP hD hS => ?_)
  refine lv_istore (lv' := [(5, .int 0), (4, .int (g ((4 * i) + 3))), (3, .int (g ((4 * i) + 2))), (2, .int (g ((4 * i) + 1))), (0, .ref am), (1, .int (nI i))]) hxq hb dX8_does_213 hl (by decide) rfl (fun ls hl => ?_)
  exact wc_vret hxq hb hr hlocks hP hS dX8_does_215

set_option maxRecDepth 100000 in
set_option maxHeartbeats 1000000 in
theorem c_X8_does_tick_ok (l : Launch) (G : va_G) (cy : Nat → ClassId) (am aS aBf aAs aSv aPa aOu aTx aCo K OM LN CM : Nat) (iS th ea fa : Int32) (σ : St) (x : Lx) (g : Nat → Int32) (i : Nat) (a b c : Int32) (ho : Ok σ) (hi : i < 60) (e0 : g (4 * i) = 107) (e1 : g (4 * i + 1) = a) (hba : a = nI (bx a)) (hn : bx a < 1000) (hbt : ∀ k, k < bx a → Bd (vB (draS (losS (tickN σ k)))) (hB (draS (losS (tickN σ k))))) (hF : tikF (nI (bx a)) = 0) : WC l yX8_does wsX8_does { frames := 6, cells := 0, slots := 0, locals := 136 } G (PB G cy [(am, .inr (12, [.ref aS, .ref aBf, .ref aAs, .ref aSv, .int iS, .ref aPa, .int (nI K), .int th, .ref aOu, .int (nI OM), .ref aTx, .int (nI LN), .int (nI x.1), .int (bI x.2), .int ea, .int fa, .ref aCo, .int (nI CM)])), (aS, .inl (cy 2, 89, .inl (encS σ))), (aCo, .inl (cy 2, 240, .inl g))]) [.ref am, .int (nI i)] [(am, .inr (12, [.ref aS, .ref aBf, .ref aAs, .ref aSv, .int iS, .ref aPa, .int (nI K), .int th, .ref aOu, .int (nI OM), .ref aTx, .int (nI LN), .int (nI x.1), .int (bI x.2), .int ea, .int fa, .ref aCo, .int (nI CM)])), (aS, .inl (cy 2, 89, .inl (encS σ))), (aCo, .inl (cy 2, 240, .inl g))] [(am, .inr (12, [.ref aS, .ref aBf, .ref aAs, .ref aSv, .int iS, .ref aPa, .int (nI K), .int th, .ref aOu, .int (nI OM), .ref aTx, .int (nI LN), .int (nI x.1), .int (bI x.2), .int ea, .int fa, .ref aCo, .int (nI CM)])), (aS, .inl (cy 2, 89, .inl (encS (tickN σ (bx a))))), (aCo, .inl (cy 2, 240, .inl g))] (none) := by
  refine WC.ofW (cc := cX8_does) (maxL := 6) (ret := none) (by decide) rfl (Nat.le_of_ble_eq_true rfl) ?_
  intro p e s m below meth cq S9 hr hlocks hPB hD hS ls hl
  obtain ⟨hxq, hb, hml, hown, hts⟩ := id S9
  obtain ⟨hP, hK⟩ := hPB
  have hl : lv_has ls 6 [(0, .ref am), (1, .int (nI i))] := hl
  have hP : va_P G vwCl [(am, .inr (12, [.ref aS, .ref aBf, .ref aAs, .ref aSv, .int iS, .ref aPa, .int (nI K), .int th, .ref aOu, .int (nI OM), .ref aTx, .int (nI LN), .int (nI x.1), .int (bI x.2), .int ea, .int fa, .ref aCo, .int (nI CM)])), (aS, .inl (cy 2, 89, .inl (encT (nB σ) (vB σ) (hB σ) (pB σ) (mB σ) (nD σ) (bD σ) (lD σ) (uD σ) (qD σ) (wD σ) (nE σ) (kE σ) (bE σ) (lE σ) (tT σ) (dT σ) (aT σ) (rT σ) (hT σ) (xT σ)))), (aCo, .inl (cy 2, 240, .inl g))] s.heap := hP
  have hD0 := hD
  have hD : va_D (wA [(am, .inr (12, [.ref aS, .ref aBf, .ref aAs, .ref aSv, .int iS, .ref aPa, .int (nI K), .int th, .ref aOu, .int (nI OM), .ref aTx, .int (nI LN), .int (nI x.1), .int (bI x.2), .int ea, .int fa, .ref aCo, .int (nI CM)])), (aS, .inl (cy 2, 89, .inl (encS σ))), (aCo, .inl (cy 2, 240, .inl g))]) [(am, .inr (12, [.ref aS, .ref aBf, .ref aAs, .ref aSv, .int iS, .ref aPa, .int (nI K), .int th, .ref aOu, .int (nI OM), .ref aTx, .int (nI LN), .int (nI x.1), .int (bI x.2), .int ea, .int fa, .ref aCo, .int (nI CM)])), (aS, .inl (cy 2, 89, .inl (encT (nB σ) (vB σ) (hB σ) (pB σ) (mB σ) (nD σ) (bD σ) (lD σ) (uD σ) (qD σ) (wD σ) (nE σ) (kE σ) (bE σ) (lE σ) (tT σ) (dT σ) (aT σ) (rT σ) (hT σ) (xT σ)))), (aCo, .inl (cy 2, 240, .inl g))] := hD
  have hi12 : ∀ w ∈ wsX80, w ∈ wsX8_does := by decide +kernel
  have hf39 := hts (.fieldLink RX8 39 "BathLeagueModel" "commands" "[I") (by decide +kernel)
  have hN0 := ho.1
  have hM0 := ho.2.1
  refine lv_aload_n hxq hb dX8_does_0 rfl (lv_at hl 0 rfl) ?_
  refine va_get (D := G) (ci := 12) (v := .ref aCo) (C := RX8) (T := TX8) (N := 18) hxq hb hts hi12 hown hK.1 hP 0 rfl rfl 16 (by decide) hf39 (fun _ h9 => h9) rfl dX8_does_1 ?_
  refine lv_iconst (v := 4) hxq hb dX8_does_4 (by decide) ?_
  refine lv_iload_n hxq hb dX8_does_5 rfl (lv_at hl 1 rfl) ?_
  refine lv_imul hxq hb dX8_does_6 ?_
  refine lv_iconst (v := 1) hxq hb dX8_does_7 (by decide) ?_
  refine lv_iadd hxq hb dX8_does_8 ?_
  refine m_iald hxq hb hK hP 2 (k := (4 * i) + 1) rfl (m_add (m_mul rfl rfl) rfl) (by omega) (Nat.le_of_ble_eq_true rfl) dX8_does_9 ?_
  refine lv_t0 (show g ((4 * i) + 1) = nI (bx a) from e1.trans hba) ?_
  refine lv_istore_n (lv' := [(2, .int (nI (bx a))), (0, .ref am), (1, .int (nI i))]) hxq hb dX8_does_10 rfl hl (by decide) rfl (fun ls hl => ?_)
  refine lv_aload_n hxq hb dX8_does_11 rfl (lv_at hl 1 rfl) ?_
  refine va_get (D := G) (ci := 12) (v := .ref aCo) (C := RX8) (T := TX8) (N := 18) hxq hb hts hi12 hown hK.1 hP 0 rfl rfl 16 (by decide) hf39 (fun _ h9 => h9) rfl dX8_does_12 ?_
  refine lv_iconst (v := 4) hxq hb dX8_does_15 (by decide) ?_
  refine lv_iload_n hxq hb dX8_does_16 rfl (lv_at hl 2 rfl) ?_
  refine lv_imul hxq hb dX8_does_17 ?_
  refine lv_iconst (v := 2) hxq hb dX8_does_18 (by decide) ?_
  refine lv_iadd hxq hb dX8_does_19 ?_
  refine m_iald hxq hb hK hP 2 (k := (4 * i) + 2) rfl (m_add (m_mul rfl rfl) rfl) (by omega) (Nat.le_of_ble_eq_true rfl) dX8_does_20 ?_
  refine lv_istore_n (lv' := [(3, .int (g ((4 * i) + 2))), (2, .int (nI (bx a))), (0, .ref am), (1, .int (nI i))]) hxq hb dX8_does_21 rfl hl (by decide) rfl (fun ls hl => ?_)
  refine lv_aload_n hxq hb dX8_does_22 rfl (lv_at hl 2 rfl) ?_
  refine va_get (D := G) (ci := 12) (v := .ref aCo) (C := RX8) (T := TX8) (N := 18) hxq hb hts hi12 hown hK.1 hP 0 rfl rfl 16 (by decide) hf39 (fun _ h9 => h9) rfl dX8_does_23 ?_
  refine lv_iconst (v := 4) hxq hb dX8_does_26 (by decide) ?_
  refine lv_iload_n hxq hb dX8_does_27 rfl (lv_at hl 3 rfl) ?_
  refine lv_imul hxq hb dX8_does_28 ?_
  refine lv_iconst (v := 3) hxq hb dX8_does_29 (by decide) ?_
  refine lv_iadd hxq hb dX8_does_30 ?_
  refine m_iald hxq hb hK hP 2 (k := (4 * i) + 3) rfl (m_add (m_mul rfl rfl) rfl) (by omega) (Nat.le_of_ble_eq_true rfl) dX8_does_31 ?_
  refine lv_istore (lv' := [(4, .int (g ((4 * i) + 3))), (3, .int (g ((4 * i) + 2))), (2, .int (nI (bx a))), (0, .ref am), (1, .int (nI i))]) hxq hb dX8_does_32 hl (by decide) rfl (fun ls hl => ?_)
  refine lv_aload_n hxq hb dX8_does_34 rfl (lv_at hl 3 rfl) ?_
  refine va_get (D := G) (ci := 12) (v := .ref aCo) (C := RX8) (T := TX8) (N := 18) hxq hb hts hi12 hown hK.1 hP 0 rfl rfl 16 (by decide) hf39 (fun _ h9 => h9) rfl dX8_does_35 ?_
  refine lv_iconst (v := 4) hxq hb dX8_does_38 (by decide) ?_
  refine lv_iload_n hxq hb dX8_does_39 rfl (lv_at hl 4 rfl) ?_
  refine lv_imul hxq hb dX8_does_40 ?_
  refine m_iald hxq hb hK hP 2 (k := 4 * i) rfl (m_mul rfl rfl) (by omega) (Nat.le_of_ble_eq_true rfl) dX8_does_41 ?_
  refine lv_t0 e0 ?_
  refine lv_tableIn (off := 91) (tgt := 133) hxq hb dX8_does_42 (by decide) (by decide) (by decide) (by decide) ?_
  refine lv_aload_n hxq hb dX8_does_133 rfl (lv_at hl 3 rfl) ?_
  refine lv_iload_n hxq hb dX8_does_134 rfl (lv_at hl 2 rfl) ?_
  refine c_wcVi (ws' := [(am, .inr (12, [.ref aS, .ref aBf, .ref aAs, .ref aSv, .int iS, .ref aPa, .int (nI K), .int th, .ref aOu, .int (nI OM), .ref aTx, .int (nI LN), .int (nI x.1), .int (bI x.2), .int ea, .int fa, .ref aCo, .int (nI CM)])), (aS, .inl (cy 2, 89, .inl (encT (nB (tickN σ (bx a))) (vB (tickN σ (bx a))) (hB (tickN σ (bx a))) (pB (tickN σ (bx a))) (mB (tickN σ (bx a))) (nD (tickN σ (bx a))) (bD (tickN σ (bx a))) (lD (tickN σ (bx a))) (uD (tickN σ (bx a))) (qD (tickN σ (bx a))) (wD (tickN σ (bx a))) (nE (tickN σ (bx a))) (kE (tickN σ (bx a))) (bE (tickN σ (bx a))) (lE (tickN σ (bx a))) (tT (tickN σ (bx a))) (dT (tickN σ (bx a))) (aT (tickN σ (bx a))) (rT (tickN σ (bx a))) (hT (tickN σ (bx a))) (xT (tickN σ (bx a)))))), (aCo, .inl (cy 2, 240, .inl g))]) S9 (c_X8_doAdvance_ok l G cy am aS aBf aAs aSv aPa aOu aTx aCo K OM LN x.1 CM iS th (bI x.2) ea fa σ (bx a) ho hn hF hbt) (cwV 1 hts gX8_does_X8_doAdvance rfl rfl rfl (by decide +kernel) ⟨Nat.le_of_ble_eq_true rfl, Nat.le_of_ble_eq_true rfl⟩) PB.blind (va_recv hK.1 hP (ci := 12) (q0 := 0) rfl rfl) (PB.at hK (m_Ppart hP [0, 1] rfl)) hP hD hS [0, 1] rfl rfl m_f2 rfl rfl hl.1 rfl (Nat.le_of_ble_eq_true rfl) ⟨Nat.zero_le _, Nat.zero_le _⟩ dX8_does_135 (fun H locs hP hD hS => ?_)
  have hP : va_P G vwCl [(am, .inr (12, [.ref aS, .ref aBf, .ref aAs, .ref aSv, .int iS, .ref aPa, .int (nI K), .int th, .ref aOu, .int (nI OM), .ref aTx, .int (nI LN), .int (nI x.1), .int (bI x.2), .int ea, .int fa, .ref aCo, .int (nI CM)])), (aS, .inl (cy 2, 89, .inl (encS (tickN σ (bx a))))), (aCo, .inl (cy 2, 240, .inl g))] H := by rw [show tickN σ (bx a) = (((nB (tickN σ (bx a))), (vB (tickN σ (bx a))), (hB (tickN σ (bx a))), (pB (tickN σ (bx a))), (mB (tickN σ (bx a)))), ((nD (tickN σ (bx a))), (bD (tickN σ (bx a))), (lD (tickN σ (bx a))), (uD (tickN σ (bx a))), (qD (tickN σ (bx a))), (wD (tickN σ (bx a)))), ((nE (tickN σ (bx a))), (kE (tickN σ (bx a))), (bE (tickN σ (bx a))), (lE (tickN σ (bx a)))), ((tT (tickN σ (bx a))), (dT (tickN σ (bx a))), (aT (tickN σ (bx a))), (rT (tickN σ (bx a))), (hT (tickN σ (bx a))), (xT (tickN σ (bx a))))) from rfl, encS_mk]; exact hP
  have hD : va_D (wA [(am, .inr (12, [.ref aS, .ref aBf, .ref aAs, .ref aSv, .int iS, .ref aPa, .int (nI K), .int th, .ref aOu, .int (nI OM), .ref aTx, .int (nI LN), .int (nI x.1), .int (bI x.2), .int ea, .int fa, .ref aCo, .int (nI CM)])), (aS, .inl (cy 2, 89, .inl (encS σ))), (aCo, .inl (cy 2, 240, .inl g))]) [(am, .inr (12, [.ref aS, .ref aBf, .ref aAs, .ref aSv, .int iS, .ref aPa, .int (nI K), .int th, .ref aOu, .int (nI OM), .ref aTx, .int (nI LN), .int (nI x.1), .int (bI x.2), .int ea, .int fa, .ref aCo, .int (nI CM)])), (aS, .inl (cy 2, 89, .inl (encS (tickN σ (bx a))))), (aCo, .inl (cy 2, 240, .inl g))] := m_D3 hD0
  have hP : va_P G vwCl [(am, .inr (12, [.ref aS, .ref aBf, .ref aAs, .ref aSv, .int iS, .ref aPa, .int (nI K), .int th, .ref aOu, .int (nI OM), .ref aTx, .int (nI LN), .int (nI x.1), .int (bI x.2), .int ea, .int fa, .ref aCo, .int (nI CM)])), (aS, .inl (cy 2, 89, .inl (encT (nB (tickN σ (bx a))) (vB (tickN σ (bx a))) (hB (tickN σ (bx a))) (pB (tickN σ (bx a))) (mB (tickN σ (bx a))) (nD (tickN σ (bx a))) (bD (tickN σ (bx a))) (lD (tickN σ (bx a))) (uD (tickN σ (bx a))) (qD (tickN σ (bx a))) (wD (tickN σ (bx a))) (nE (tickN σ (bx a))) (kE (tickN σ (bx a))) (bE (tickN σ (bx a))) (lE (tickN σ (bx a))) (tT (tickN σ (bx a))) (dT (tickN σ (bx a))) (aT (tickN σ (bx a))) (rT (tickN σ (bx a))) (hT (tickN σ (bx a))) (xT (tickN σ (bx a)))))), (aCo, .inl (cy 2, 240, .inl g))] H := hP
  have hD : va_D (wA [(am, .inr (12, [.ref aS, .ref aBf, .ref aAs, .ref aSv, .int iS, .ref aPa, .int (nI K), .int th, .ref aOu, .int (nI OM), .ref aTx, .int (nI LN), .int (nI x.1), .int (bI x.2), .int ea, .int fa, .ref aCo, .int (nI CM)])), (aS, .inl (cy 2, 89, .inl (encS σ))), (aCo, .inl (cy 2, 240, .inl g))]) [(am, .inr (12, [.ref aS, .ref aBf, .ref aAs, .ref aSv, .int iS, .ref aPa, .int (nI K), .int th, .ref aOu, .int (nI OM), .ref aTx, .int (nI LN), .int (nI x.1), .int (bI x.2), .int ea, .int fa, .ref aCo, .int (nI CM)])), (aS, .inl (cy 2, 89, .inl (encT (nB (tickN σ (bx a))) (vB (tickN σ (bx a))) (hB (tickN σ (bx a))) (pB (tickN σ (bx a))) (mB (tickN σ (bx a))) (nD (tickN σ (bx a))) (bD (tickN σ (bx a))) (lD (tickN σ (bx a))) (uD (tickN σ (bx a))) (qD (tickN σ (bx a))) (wD (tickN σ (bx a))) (nE (tickN σ (bx a))) (kE (tickN σ (bx a))) (bE (tickN σ (bx a))) (lE (tickN σ (bx a))) (tT (tickN σ (bx a))) (dT (tickN σ (bx a))) (aT (tickN σ (bx a))) (rT (tickN σ (bx a))) (hT (tickN σ (bx a))) (xT (tickN σ (bx a)))))), (aCo, .inl (cy 2, 240, .inl g))] := hD
  refine lv_istore (lv' := [(5, .int (dT (tickN σ (bx a)) - dT σ)), (4, .int (g ((4 * i) + 3))), (3, .int (g ((4 * i) + 2))), (2, .int (nI (bx a))), (0, .ref am), (1, .int (nI i))]) hxq hb dX8_does_138 hl (by decide) rfl (fun ls hl => ?_)
  refine lv_goto (tgt := 215) hxq hb dX8_does_140 (by decide) ?_
  exact wc_vret hxq hb hr hlocks hP hS dX8_does_215

set_option maxRecDepth 100000 in
set_option maxHeartbeats 1000000 in
theorem c_X8_does_tick_no (l : Launch) (G : va_G) (cy : Nat → ClassId) (am aS aBf aAs aSv aPa aOu aTx aCo K OM LN CM : Nat) (iS th ea fa : Int32) (σ : St) (x : Lx) (g : Nat → Int32) (i : Nat) (a b c : Int32) (ho : Ok σ) (hi : i < 60) (e0 : g (4 * i) = 107) (e1 : g (4 * i + 1) = a) (hF : ¬ tikF a = 0) : WC l yX8_does wsX8_does { frames := 6, cells := 0, slots := 0, locals := 136 } G (PB G cy [(am, .inr (12, [.ref aS, .ref aBf, .ref aAs, .ref aSv, .int iS, .ref aPa, .int (nI K), .int th, .ref aOu, .int (nI OM), .ref aTx, .int (nI LN), .int (nI x.1), .int (bI x.2), .int ea, .int fa, .ref aCo, .int (nI CM)])), (aS, .inl (cy 2, 89, .inl (encS σ))), (aCo, .inl (cy 2, 240, .inl g))]) [.ref am, .int (nI i)] [(am, .inr (12, [.ref aS, .ref aBf, .ref aAs, .ref aSv, .int iS, .ref aPa, .int (nI K), .int th, .ref aOu, .int (nI OM), .ref aTx, .int (nI LN), .int (nI x.1), .int (bI x.2), .int ea, .int fa, .ref aCo, .int (nI CM)])), (aS, .inl (cy 2, 89, .inl (encS σ))), (aCo, .inl (cy 2, 240, .inl g))] [(am, .inr (12, [.ref aS, .ref aBf, .ref aAs, .ref aSv, .int iS, .ref aPa, .int (nI K), .int 1, .ref aOu, .int (nI OM), .ref aTx, .int (nI LN), .int (nI x.1), .int (bI x.2), .int ea, .int fa, .ref aCo, .int (nI CM)])), (aS, .inl (cy 2, 89, .inl (encS σ))), (aCo, .inl (cy 2, 240, .inl g))] (none) := by
  refine WC.ofW (cc := cX8_does) (maxL := 6) (ret := none) (by decide) rfl (Nat.le_of_ble_eq_true rfl) ?_
  intro p e s m below meth cq S9 hr hlocks hPB hD hS ls hl
  obtain ⟨hxq, hb, hml, hown, hts⟩ := id S9
  obtain ⟨hP, hK⟩ := hPB
  have hl : lv_has ls 6 [(0, .ref am), (1, .int (nI i))] := hl
  have hP : va_P G vwCl [(am, .inr (12, [.ref aS, .ref aBf, .ref aAs, .ref aSv, .int iS, .ref aPa, .int (nI K), .int th, .ref aOu, .int (nI OM), .ref aTx, .int (nI LN), .int (nI x.1), .int (bI x.2), .int ea, .int fa, .ref aCo, .int (nI CM)])), (aS, .inl (cy 2, 89, .inl (encT (nB σ) (vB σ) (hB σ) (pB σ) (mB σ) (nD σ) (bD σ) (lD σ) (uD σ) (qD σ) (wD σ) (nE σ) (kE σ) (bE σ) (lE σ) (tT σ) (dT σ) (aT σ) (rT σ) (hT σ) (xT σ)))), (aCo, .inl (cy 2, 240, .inl g))] s.heap := hP
  have hD0 := hD
  have hD : va_D (wA [(am, .inr (12, [.ref aS, .ref aBf, .ref aAs, .ref aSv, .int iS, .ref aPa, .int (nI K), .int th, .ref aOu, .int (nI OM), .ref aTx, .int (nI LN), .int (nI x.1), .int (bI x.2), .int ea, .int fa, .ref aCo, .int (nI CM)])), (aS, .inl (cy 2, 89, .inl (encS σ))), (aCo, .inl (cy 2, 240, .inl g))]) [(am, .inr (12, [.ref aS, .ref aBf, .ref aAs, .ref aSv, .int iS, .ref aPa, .int (nI K), .int th, .ref aOu, .int (nI OM), .ref aTx, .int (nI LN), .int (nI x.1), .int (bI x.2), .int ea, .int fa, .ref aCo, .int (nI CM)])), (aS, .inl (cy 2, 89, .inl (encT (nB σ) (vB σ) (hB σ) (pB σ) (mB σ) (nD σ) (bD σ) (lD σ) (uD σ) (qD σ) (wD σ) (nE σ) (kE σ) (bE σ) (lE σ) (tT σ) (dT σ) (aT σ) (rT σ) (hT σ) (xT σ)))), (aCo, .inl (cy 2, 240, .inl g))] := hD
  have hi12 : ∀ w ∈ wsX80, w ∈ wsX8_does := by decide +kernel
  have hf39 := hts (.fieldLink RX8 39 "BathLeagueModel" "commands" "[I") (by decide +kernel)
  have hN0 := ho.1
  have hM0 := ho.2.1
  refine lv_aload_n hxq hb dX8_does_0 rfl (lv_at hl 0 rfl) ?_
  refine va_get (D := G) (ci := 12) (v := .ref aCo) (C := RX8) (T := TX8) (N := 18) hxq hb hts hi12 hown hK.1 hP 0 rfl rfl 16 (by decide) hf39 (fun _ h9 => h9) rfl dX8_does_1 ?_
  refine lv_iconst (v := 4) hxq hb dX8_does_4 (by decide) ?_
  refine lv_iload_n hxq hb dX8_does_5 rfl (lv_at hl 1 rfl) ?_
  refine lv_imul hxq hb dX8_does_6 ?_
  refine lv_iconst (v := 1) hxq hb dX8_does_7 (by decide) ?_
  refine lv_iadd hxq hb dX8_does_8 ?_
  refine m_iald hxq hb hK hP 2 (k := (4 * i) + 1) rfl (m_add (m_mul rfl rfl) rfl) (by omega) (Nat.le_of_ble_eq_true rfl) dX8_does_9 ?_
  refine lv_t0 (show g ((4 * i) + 1) = a from e1) ?_
  refine lv_istore_n (lv' := [(2, .int a), (0, .ref am), (1, .int (nI i))]) hxq hb dX8_does_10 rfl hl (by decide) rfl (fun ls hl => ?_)
  refine lv_aload_n hxq hb dX8_does_11 rfl (lv_at hl 1 rfl) ?_
  refine va_get (D := G) (ci := 12) (v := .ref aCo) (C := RX8) (T := TX8) (N := 18) hxq hb hts hi12 hown hK.1 hP 0 rfl rfl 16 (by decide) hf39 (fun _ h9 => h9) rfl dX8_does_12 ?_
  refine lv_iconst (v := 4) hxq hb dX8_does_15 (by decide) ?_
  refine lv_iload_n hxq hb dX8_does_16 rfl (lv_at hl 2 rfl) ?_
  refine lv_imul hxq hb dX8_does_17 ?_
  refine lv_iconst (v := 2) hxq hb dX8_does_18 (by decide) ?_
  refine lv_iadd hxq hb dX8_does_19 ?_
  refine m_iald hxq hb hK hP 2 (k := (4 * i) + 2) rfl (m_add (m_mul rfl rfl) rfl) (by omega) (Nat.le_of_ble_eq_true rfl) dX8_does_20 ?_
  refine lv_istore_n (lv' := [(3, .int (g ((4 * i) + 2))), (2, .int a), (0, .ref am), (1, .int (nI i))]) hxq hb dX8_does_21 rfl hl (by decide) rfl (fun ls hl => ?_)
  refine lv_aload_n hxq hb dX8_does_22 rfl (lv_at hl 2 rfl) ?_
  refine va_get (D := G) (ci := 12) (v := .ref aCo) (C := RX8) (T := TX8) (N := 18) hxq hb hts hi12 hown hK.1 hP 0 rfl rfl 16 (by decide) hf39 (fun _ h9 => h9) rfl dX8_does_23 ?_
  refine lv_iconst (v := 4) hxq hb dX8_does_26 (by decide) ?_
  refine lv_iload_n hxq hb dX8_does_27 rfl (lv_at hl 3 rfl) ?_
  refine lv_imul hxq hb dX8_does_28 ?_
  refine lv_iconst (v := 3) hxq hb dX8_does_29 (by decide) ?_
  refine lv_iadd hxq hb dX8_does_30 ?_
  refine m_iald hxq hb hK hP 2 (k := (4 * i) + 3) rfl (m_add (m_mul rfl rfl) rfl) (by omega) (Nat.le_of_ble_eq_true rfl) dX8_does_31 ?_
  refine lv_istore (lv' := [(4, .int (g ((4 * i) + 3))), (3, .int (g ((4 * i) + 2))), (2, .int a), (0, .ref am), (1, .int (nI i))]) hxq hb dX8_does_32 hl (by decide) rfl (fun ls hl => ?_)
  refine lv_aload_n hxq hb dX8_does_34 rfl (lv_at hl 3 rfl) ?_
  refine va_get (D := G) (ci := 12) (v := .ref aCo) (C := RX8) (T := TX8) (N := 18) hxq hb hts hi12 hown hK.1 hP 0 rfl rfl 16 (by decide) hf39 (fun _ h9 => h9) rfl dX8_does_35 ?_
  refine lv_iconst (v := 4) hxq hb dX8_does_38 (by decide) ?_
  refine lv_iload_n hxq hb dX8_does_39 rfl (lv_at hl 4 rfl) ?_
  refine lv_imul hxq hb dX8_does_40 ?_
  refine m_iald hxq hb hK hP 2 (k := 4 * i) rfl (m_mul rfl rfl) (by omega) (Nat.le_of_ble_eq_true rfl) dX8_does_41 ?_
  refine lv_t0 e0 ?_
  refine lv_tableIn (off := 91) (tgt := 133) hxq hb dX8_does_42 (by decide) (by decide) (by decide) (by decide) ?_
  refine lv_aload_n hxq hb dX8_does_133 rfl (lv_at hl 3 rfl) ?_
  refine lv_iload_n hxq hb dX8_does_134 rfl (lv_at hl 2 rfl) ?_
  refine c_wcVi (ws' := [(am, .inr (12, [.ref aS, .ref aBf, .ref aAs, .ref aSv, .int iS, .ref aPa, .int (nI K), .int 1, .ref aOu, .int (nI OM), .ref aTx, .int (nI LN), .int (nI x.1), .int (bI x.2), .int ea, .int fa, .ref aCo, .int (nI CM)])), (aS, .inl (cy 2, 89, .inl (encT (nB σ) (vB σ) (hB σ) (pB σ) (mB σ) (nD σ) (bD σ) (lD σ) (uD σ) (qD σ) (wD σ) (nE σ) (kE σ) (bE σ) (lE σ) (tT σ) (dT σ) (aT σ) (rT σ) (hT σ) (xT σ)))), (aCo, .inl (cy 2, 240, .inl g))]) S9 (c_X8_doAdvance_no l G cy am aS aBf aAs aSv aPa aOu aTx aCo K OM LN x.1 CM iS th (bI x.2) ea fa (nB σ) (vB σ) (hB σ) (pB σ) (mB σ) (nD σ) (bD σ) (lD σ) (uD σ) (qD σ) (wD σ) (nE σ) (kE σ) (bE σ) (lE σ) (tT σ) (dT σ) (aT σ) (rT σ) (hT σ) (xT σ) a hF) (cwV 1 hts gX8_does_X8_doAdvance rfl rfl rfl (by decide +kernel) ⟨Nat.le_of_ble_eq_true rfl, Nat.le_of_ble_eq_true rfl⟩) PB.blind (va_recv hK.1 hP (ci := 12) (q0 := 0) rfl rfl) (PB.at hK (m_Ppart hP [0, 1] rfl)) hP hD hS [0, 1] rfl rfl m_f2 rfl rfl hl.1 rfl (Nat.le_of_ble_eq_true rfl) ⟨Nat.zero_le _, Nat.zero_le _⟩ dX8_does_135 (fun H locs hP hD hS => ?_)
  refine lv_istore (lv' := [(5, .int 0), (4, .int (g ((4 * i) + 3))), (3, .int (g ((4 * i) + 2))), (2, .int a), (0, .ref am), (1, .int (nI i))]) hxq hb dX8_does_138 hl (by decide) rfl (fun ls hl => ?_)
  refine lv_goto (tgt := 215) hxq hb dX8_does_140 (by decide) ?_
  exact wc_vret hxq hb hr hlocks hP hS dX8_does_215

set_option maxRecDepth 100000 in
set_option maxHeartbeats 1000000 in
theorem c_X8_does_plugI_ok (l : Launch) (G : va_G) (cy : Nat → ClassId) (am aS aBf aAs aSv aPa aOu aTx aCo K OM LN CM : Nat) (iS th ea fa : Int32) (σ : St) (x : Lx) (g : Nat → Int32) (i : Nat) (a b c : Int32) (ho : Ok σ) (hi : i < 60) (e0 : g (4 * i) = 112) (e1 : g (4 * i + 1) = a) (e2 : g (4 * i + 2) = b) (hb9 : a = nI (bx a)) (hbN : bx a < nB σ) (h7 : b = 1) (hF : plgF (nB σ) a = 0) : WC l yX8_does wsX8_does { frames := 6, cells := 0, slots := 0, locals := 136 } G (PB G cy [(am, .inr (12, [.ref aS, .ref aBf, .ref aAs, .ref aSv, .int iS, .ref aPa, .int (nI K), .int th, .ref aOu, .int (nI OM), .ref aTx, .int (nI LN), .int (nI x.1), .int (bI x.2), .int ea, .int fa, .ref aCo, .int (nI CM)])), (aS, .inl (cy 2, 89, .inl (encS σ))), (aCo, .inl (cy 2, 240, .inl g))]) [.ref am, .int (nI i)] [(am, .inr (12, [.ref aS, .ref aBf, .ref aAs, .ref aSv, .int iS, .ref aPa, .int (nI K), .int th, .ref aOu, .int (nI OM), .ref aTx, .int (nI LN), .int (nI x.1), .int (bI x.2), .int ea, .int fa, .ref aCo, .int (nI CM)])), (aS, .inl (cy 2, 89, .inl (encS σ))), (aCo, .inl (cy 2, 240, .inl g))] [(am, .inr (12, [.ref aS, .ref aBf, .ref aAs, .ref aSv, .int iS, .ref aPa, .int (nI K), .int th, .ref aOu, .int (nI OM), .ref aTx, .int (nI LN), .int (nI x.1), .int (bI x.2), .int ea, .int fa, .ref aCo, .int (nI CM)])), (aS, .inl (cy 2, 89, .inl (encS (pluS (bx a) 1 σ)))), (aCo, .inl (cy 2, 240, .inl g))] (none) := by
  refine WC.ofW (cc := cX8_does) (maxL := 6) (ret := none) (by decide) rfl (Nat.le_of_ble_eq_true rfl) ?_
  intro p e s m below meth cq S9 hr hlocks hPB hD hS ls hl
  obtain ⟨hxq, hb, hml, hown, hts⟩ := id S9
  obtain ⟨hP, hK⟩ := hPB
  have hl : lv_has ls 6 [(0, .ref am), (1, .int (nI i))] := hl
  have hP : va_P G vwCl [(am, .inr (12, [.ref aS, .ref aBf, .ref aAs, .ref aSv, .int iS, .ref aPa, .int (nI K), .int th, .ref aOu, .int (nI OM), .ref aTx, .int (nI LN), .int (nI x.1), .int (bI x.2), .int ea, .int fa, .ref aCo, .int (nI CM)])), (aS, .inl (cy 2, 89, .inl (encT (nB σ) (vB σ) (hB σ) (pB σ) (mB σ) (nD σ) (bD σ) (lD σ) (uD σ) (qD σ) (wD σ) (nE σ) (kE σ) (bE σ) (lE σ) (tT σ) (dT σ) (aT σ) (rT σ) (hT σ) (xT σ)))), (aCo, .inl (cy 2, 240, .inl g))] s.heap := hP
  have hD0 := hD
  have hD : va_D (wA [(am, .inr (12, [.ref aS, .ref aBf, .ref aAs, .ref aSv, .int iS, .ref aPa, .int (nI K), .int th, .ref aOu, .int (nI OM), .ref aTx, .int (nI LN), .int (nI x.1), .int (bI x.2), .int ea, .int fa, .ref aCo, .int (nI CM)])), (aS, .inl (cy 2, 89, .inl (encS σ))), (aCo, .inl (cy 2, 240, .inl g))]) [(am, .inr (12, [.ref aS, .ref aBf, .ref aAs, .ref aSv, .int iS, .ref aPa, .int (nI K), .int th, .ref aOu, .int (nI OM), .ref aTx, .int (nI LN), .int (nI x.1), .int (bI x.2), .int ea, .int fa, .ref aCo, .int (nI CM)])), (aS, .inl (cy 2, 89, .inl (encT (nB σ) (vB σ) (hB σ) (pB σ) (mB σ) (nD σ) (bD σ) (lD σ) (uD σ) (qD σ) (wD σ) (nE σ) (kE σ) (bE σ) (lE σ) (tT σ) (dT σ) (aT σ) (rT σ) (hT σ) (xT σ)))), (aCo, .inl (cy 2, 240, .inl g))] := hD
  have hi12 : ∀ w ∈ wsX80, w ∈ wsX8_does := by decide +kernel
  have hf39 := hts (.fieldLink RX8 39 "BathLeagueModel" "commands" "[I") (by decide +kernel)
  have hN0 := ho.1
  have hM0 := ho.2.1
  refine lv_aload_n hxq hb dX8_does_0 rfl (lv_at hl 0 rfl) ?_
  refine va_get (D := G) (ci := 12) (v := .ref aCo) (C := RX8) (T := TX8) (N := 18) hxq hb hts hi12 hown hK.1 hP 0 rfl rfl 16 (by decide) hf39 (fun _ h9 => h9) rfl dX8_does_1 ?_
  refine lv_iconst (v := 4) hxq hb dX8_does_4 (by decide) ?_
  refine lv_iload_n hxq hb dX8_does_5 rfl (lv_at hl 1 rfl) ?_
  refine lv_imul hxq hb dX8_does_6 ?_
  refine lv_iconst (v := 1) hxq hb dX8_does_7 (by decide) ?_
  refine lv_iadd hxq hb dX8_does_8 ?_
  refine m_iald hxq hb hK hP 2 (k := (4 * i) + 1) rfl (m_add (m_mul rfl rfl) rfl) (by omega) (Nat.le_of_ble_eq_true rfl) dX8_does_9 ?_
  refine lv_t0 (show g ((4 * i) + 1) = a from e1) ?_
  refine lv_istore_n (lv' := [(2, .int a), (0, .ref am), (1, .int (nI i))]) hxq hb dX8_does_10 rfl hl (by decide) rfl (fun ls hl => ?_)
  refine lv_aload_n hxq hb dX8_does_11 rfl (lv_at hl 1 rfl) ?_
  refine va_get (D := G) (ci := 12) (v := .ref aCo) (C := RX8) (T := TX8) (N := 18) hxq hb hts hi12 hown hK.1 hP 0 rfl rfl 16 (by decide) hf39 (fun _ h9 => h9) rfl dX8_does_12 ?_
  refine lv_iconst (v := 4) hxq hb dX8_does_15 (by decide) ?_
  refine lv_iload_n hxq hb dX8_does_16 rfl (lv_at hl 2 rfl) ?_
  refine lv_imul hxq hb dX8_does_17 ?_
  refine lv_iconst (v := 2) hxq hb dX8_does_18 (by decide) ?_
  refine lv_iadd hxq hb dX8_does_19 ?_
  refine m_iald hxq hb hK hP 2 (k := (4 * i) + 2) rfl (m_add (m_mul rfl rfl) rfl) (by omega) (Nat.le_of_ble_eq_true rfl) dX8_does_20 ?_
  refine lv_t0 (show g ((4 * i) + 2) = b from e2) ?_
  refine lv_istore_n (lv' := [(3, .int b), (2, .int a), (0, .ref am), (1, .int (nI i))]) hxq hb dX8_does_21 rfl hl (by decide) rfl (fun ls hl => ?_)
  refine lv_aload_n hxq hb dX8_does_22 rfl (lv_at hl 2 rfl) ?_
  refine va_get (D := G) (ci := 12) (v := .ref aCo) (C := RX8) (T := TX8) (N := 18) hxq hb hts hi12 hown hK.1 hP 0 rfl rfl 16 (by decide) hf39 (fun _ h9 => h9) rfl dX8_does_23 ?_
  refine lv_iconst (v := 4) hxq hb dX8_does_26 (by decide) ?_
  refine lv_iload_n hxq hb dX8_does_27 rfl (lv_at hl 3 rfl) ?_
  refine lv_imul hxq hb dX8_does_28 ?_
  refine lv_iconst (v := 3) hxq hb dX8_does_29 (by decide) ?_
  refine lv_iadd hxq hb dX8_does_30 ?_
  refine m_iald hxq hb hK hP 2 (k := (4 * i) + 3) rfl (m_add (m_mul rfl rfl) rfl) (by omega) (Nat.le_of_ble_eq_true rfl) dX8_does_31 ?_
  refine lv_istore (lv' := [(4, .int (g ((4 * i) + 3))), (3, .int b), (2, .int a), (0, .ref am), (1, .int (nI i))]) hxq hb dX8_does_32 hl (by decide) rfl (fun ls hl => ?_)
  refine lv_aload_n hxq hb dX8_does_34 rfl (lv_at hl 3 rfl) ?_
  refine va_get (D := G) (ci := 12) (v := .ref aCo) (C := RX8) (T := TX8) (N := 18) hxq hb hts hi12 hown hK.1 hP 0 rfl rfl 16 (by decide) hf39 (fun _ h9 => h9) rfl dX8_does_35 ?_
  refine lv_iconst (v := 4) hxq hb dX8_does_38 (by decide) ?_
  refine lv_iload_n hxq hb dX8_does_39 rfl (lv_at hl 4 rfl) ?_
  refine lv_imul hxq hb dX8_does_40 ?_
  refine m_iald hxq hb hK hP 2 (k := 4 * i) rfl (m_mul rfl rfl) (by omega) (Nat.le_of_ble_eq_true rfl) dX8_does_41 ?_
  refine lv_t0 e0 ?_
  refine lv_tableIn (off := 114) (tgt := 156) hxq hb dX8_does_42 (by decide) (by decide) (by decide) (by decide) ?_
  refine lv_aload_n hxq hb dX8_does_156 rfl (lv_at hl 3 rfl) ?_
  refine lv_iload_n hxq hb dX8_does_157 rfl (lv_at hl 2 rfl) ?_
  refine lv_iload_n hxq hb dX8_does_158 rfl (lv_at hl 1 rfl) ?_
  refine lv_iconst (v := 1) hxq hb dX8_does_159 (by decide) ?_
  refine lv_icmp_ne (tgt := 167) hxq hb dX8_does_160 (by decide) (fun c_1 => ?_) (fun c_1 => ?_)
  · exact absurd h7 c_1
  · refine lv_iconst (v := 1) hxq hb dX8_does_163 (by decide) ?_
    refine lv_goto (tgt := 168) hxq hb dX8_does_164 (by decide) ?_
    refine c_wcVi (ws' := [(am, .inr (12, [.ref aS, .ref aBf, .ref aAs, .ref aSv, .int iS, .ref aPa, .int (nI K), .int th, .ref aOu, .int (nI OM), .ref aTx, .int (nI LN), .int (nI x.1), .int (bI x.2), .int ea, .int fa, .ref aCo, .int (nI CM)])), (aS, .inl (cy 2, 89, .inl (encT (nB σ) (vB σ) (hB σ) (upd (pB σ) (bx a) 1) (mB σ) (nD σ) (bD σ) (lD σ) (uD σ) (qD σ) (wD σ) (nE σ) (kE σ) (bE σ) (lE σ) (tT σ) (dT σ) (aT σ) (rT σ) (hT σ) (xT σ)))), (aCo, .inl (cy 2, 240, .inl g))]) S9 (c_X8_doSetPlug_ok l G cy am aS aBf aAs aSv aPa aOu aTx aCo K OM LN x.1 CM iS th (bI x.2) ea fa (nB σ) (vB σ) (hB σ) (pB σ) (mB σ) (nD σ) (bD σ) (lD σ) (uD σ) (qD σ) (wD σ) (nE σ) (kE σ) (bE σ) (lE σ) (tT σ) (dT σ) (aT σ) (rT σ) (hT σ) (xT σ) a 1 ho.1 hF) (cwV 2 hts gX8_does_X8_doSetPlug rfl rfl rfl (by decide +kernel) ⟨Nat.le_of_ble_eq_true rfl, Nat.le_of_ble_eq_true rfl⟩) PB.blind (va_recv hK.1 hP (ci := 12) (q0 := 0) rfl rfl) (PB.at hK (m_Ppart hP [0, 1] rfl)) hP hD hS [0, 1] rfl rfl m_f2 rfl rfl hl.1 rfl (Nat.le_of_ble_eq_true rfl) ⟨Nat.zero_le _, Nat.zero_le _⟩ dX8_does_168 (fun H locs hP hD hS => ?_)
    have hP : va_P G vwCl [(am, .inr (12, [.ref aS, .ref aBf, .ref aAs, .ref aSv, .int iS, .ref aPa, .int (nI K), .int th, .ref aOu, .int (nI OM), .ref aTx, .int (nI LN), .int (nI x.1), .int (bI x.2), .int ea, .int fa, .ref aCo, .int (nI CM)])), (aS, .inl (cy 2, 89, .inl (encS (pluS (bx a) 1 σ)))), (aCo, .inl (cy 2, 240, .inl g))] H := by rw [show pluS (bx a) 1 σ = (((nB σ), (vB σ), (hB σ), (upd (pB σ) (bx a) 1), (mB σ)), ((nD σ), (bD σ), (lD σ), (uD σ), (qD σ), (wD σ)), ((nE σ), (kE σ), (bE σ), (lE σ)), ((tT σ), (dT σ), (aT σ), (rT σ), (hT σ), (xT σ))) from rfl, encS_mk]; exact hP
    have hD : va_D (wA [(am, .inr (12, [.ref aS, .ref aBf, .ref aAs, .ref aSv, .int iS, .ref aPa, .int (nI K), .int th, .ref aOu, .int (nI OM), .ref aTx, .int (nI LN), .int (nI x.1), .int (bI x.2), .int ea, .int fa, .ref aCo, .int (nI CM)])), (aS, .inl (cy 2, 89, .inl (encS σ))), (aCo, .inl (cy 2, 240, .inl g))]) [(am, .inr (12, [.ref aS, .ref aBf, .ref aAs, .ref aSv, .int iS, .ref aPa, .int (nI K), .int th, .ref aOu, .int (nI OM), .ref aTx, .int (nI LN), .int (nI x.1), .int (bI x.2), .int ea, .int fa, .ref aCo, .int (nI CM)])), (aS, .inl (cy 2, 89, .inl (encS (pluS (bx a) 1 σ)))), (aCo, .inl (cy 2, 240, .inl g))] := m_D3 hD0
    have hP : va_P G vwCl [(am, .inr (12, [.ref aS, .ref aBf, .ref aAs, .ref aSv, .int iS, .ref aPa, .int (nI K), .int th, .ref aOu, .int (nI OM), .ref aTx, .int (nI LN), .int (nI x.1), .int (bI x.2), .int ea, .int fa, .ref aCo, .int (nI CM)])), (aS, .inl (cy 2, 89, .inl (encT (nB (pluS (bx a) 1 σ)) (vB (pluS (bx a) 1 σ)) (hB (pluS (bx a) 1 σ)) (pB (pluS (bx a) 1 σ)) (mB (pluS (bx a) 1 σ)) (nD (pluS (bx a) 1 σ)) (bD (pluS (bx a) 1 σ)) (lD (pluS (bx a) 1 σ)) (uD (pluS (bx a) 1 σ)) (qD (pluS (bx a) 1 σ)) (wD (pluS (bx a) 1 σ)) (nE (pluS (bx a) 1 σ)) (kE (pluS (bx a) 1 σ)) (bE (pluS (bx a) 1 σ)) (lE (pluS (bx a) 1 σ)) (tT (pluS (bx a) 1 σ)) (dT (pluS (bx a) 1 σ)) (aT (pluS (bx a) 1 σ)) (rT (pluS (bx a) 1 σ)) (hT (pluS (bx a) 1 σ)) (xT (pluS (bx a) 1 σ))))), (aCo, .inl (cy 2, 240, .inl g))] H := hP
    have hD : va_D (wA [(am, .inr (12, [.ref aS, .ref aBf, .ref aAs, .ref aSv, .int iS, .ref aPa, .int (nI K), .int th, .ref aOu, .int (nI OM), .ref aTx, .int (nI LN), .int (nI x.1), .int (bI x.2), .int ea, .int fa, .ref aCo, .int (nI CM)])), (aS, .inl (cy 2, 89, .inl (encS σ))), (aCo, .inl (cy 2, 240, .inl g))]) [(am, .inr (12, [.ref aS, .ref aBf, .ref aAs, .ref aSv, .int iS, .ref aPa, .int (nI K), .int th, .ref aOu, .int (nI OM), .ref aTx, .int (nI LN), .int (nI x.1), .int (bI x.2), .int ea, .int fa, .ref aCo, .int (nI CM)])), (aS, .inl (cy 2, 89, .inl (encT (nB (pluS (bx a) 1 σ)) (vB (pluS (bx a) 1 σ)) (hB (pluS (bx a) 1 σ)) (pB (pluS (bx a) 1 σ)) (mB (pluS (bx a) 1 σ)) (nD (pluS (bx a) 1 σ)) (bD (pluS (bx a) 1 σ)) (lD (pluS (bx a) 1 σ)) (uD (pluS (bx a) 1 σ)) (qD (pluS (bx a) 1 σ)) (wD (pluS (bx a) 1 σ)) (nE (pluS (bx a) 1 σ)) (kE (pluS (bx a) 1 σ)) (bE (pluS (bx a) 1 σ)) (lE (pluS (bx a) 1 σ)) (tT (pluS (bx a) 1 σ)) (dT (pluS (bx a) 1 σ)) (aT (pluS (bx a) 1 σ)) (rT (pluS (bx a) 1 σ)) (hT (pluS (bx a) 1 σ)) (xT (pluS (bx a) 1 σ))))), (aCo, .inl (cy 2, 240, .inl g))] := hD
    refine lv_istore (lv' := [(5, .int (1 - (if (pB σ) (bx a) = 0 ∧ bx a < (nB σ) then 1 else 0))), (4, .int (g ((4 * i) + 3))), (3, .int b), (2, .int a), (0, .ref am), (1, .int (nI i))]) hxq hb dX8_does_171 hl (by decide) rfl (fun ls hl => ?_)
    refine lv_goto (tgt := 215) hxq hb dX8_does_173 (by decide) ?_
    exact wc_vret hxq hb hr hlocks hP hS dX8_does_215

set_option maxRecDepth 100000 in
set_option maxHeartbeats 1000000 in
theorem c_X8_does_plugI_no (l : Launch) (G : va_G) (cy : Nat → ClassId) (am aS aBf aAs aSv aPa aOu aTx aCo K OM LN CM : Nat) (iS th ea fa : Int32) (σ : St) (x : Lx) (g : Nat → Int32) (i : Nat) (a b c : Int32) (ho : Ok σ) (hi : i < 60) (e0 : g (4 * i) = 112) (e1 : g (4 * i + 1) = a) (e2 : g (4 * i + 2) = b) (h7 : b = 1) (hF : ¬ plgF (nB σ) a = 0) : WC l yX8_does wsX8_does { frames := 6, cells := 0, slots := 0, locals := 136 } G (PB G cy [(am, .inr (12, [.ref aS, .ref aBf, .ref aAs, .ref aSv, .int iS, .ref aPa, .int (nI K), .int th, .ref aOu, .int (nI OM), .ref aTx, .int (nI LN), .int (nI x.1), .int (bI x.2), .int ea, .int fa, .ref aCo, .int (nI CM)])), (aS, .inl (cy 2, 89, .inl (encS σ))), (aCo, .inl (cy 2, 240, .inl g))]) [.ref am, .int (nI i)] [(am, .inr (12, [.ref aS, .ref aBf, .ref aAs, .ref aSv, .int iS, .ref aPa, .int (nI K), .int th, .ref aOu, .int (nI OM), .ref aTx, .int (nI LN), .int (nI x.1), .int (bI x.2), .int ea, .int fa, .ref aCo, .int (nI CM)])), (aS, .inl (cy 2, 89, .inl (encS σ))), (aCo, .inl (cy 2, 240, .inl g))] [(am, .inr (12, [.ref aS, .ref aBf, .ref aAs, .ref aSv, .int iS, .ref aPa, .int (nI K), .int (plgF (nB σ) a), .ref aOu, .int (nI OM), .ref aTx, .int (nI LN), .int (nI x.1), .int (bI x.2), .int ea, .int fa, .ref aCo, .int (nI CM)])), (aS, .inl (cy 2, 89, .inl (encS σ))), (aCo, .inl (cy 2, 240, .inl g))] (none) := by
  refine WC.ofW (cc := cX8_does) (maxL := 6) (ret := none) (by decide) rfl (Nat.le_of_ble_eq_true rfl) ?_
  intro p e s m below meth cq S9 hr hlocks hPB hD hS ls hl
  obtain ⟨hxq, hb, hml, hown, hts⟩ := id S9
  obtain ⟨hP, hK⟩ := hPB
  have hl : lv_has ls 6 [(0, .ref am), (1, .int (nI i))] := hl
  have hP : va_P G vwCl [(am, .inr (12, [.ref aS, .ref aBf, .ref aAs, .ref aSv, .int iS, .ref aPa, .int (nI K), .int th, .ref aOu, .int (nI OM), .ref aTx, .int (nI LN), .int (nI x.1), .int (bI x.2), .int ea, .int fa, .ref aCo, .int (nI CM)])), (aS, .inl (cy 2, 89, .inl (encT (nB σ) (vB σ) (hB σ) (pB σ) (mB σ) (nD σ) (bD σ) (lD σ) (uD σ) (qD σ) (wD σ) (nE σ) (kE σ) (bE σ) (lE σ) (tT σ) (dT σ) (aT σ) (rT σ) (hT σ) (xT σ)))), (aCo, .inl (cy 2, 240, .inl g))] s.heap := hP
  have hD0 := hD
  have hD : va_D (wA [(am, .inr (12, [.ref aS, .ref aBf, .ref aAs, .ref aSv, .int iS, .ref aPa, .int (nI K), .int th, .ref aOu, .int (nI OM), .ref aTx, .int (nI LN), .int (nI x.1), .int (bI x.2), .int ea, .int fa, .ref aCo, .int (nI CM)])), (aS, .inl (cy 2, 89, .inl (encS σ))), (aCo, .inl (cy 2, 240, .inl g))]) [(am, .inr (12, [.ref aS, .ref aBf, .ref aAs, .ref aSv, .int iS, .ref aPa, .int (nI K), .int th, .ref aOu, .int (nI OM), .ref aTx, .int (nI LN), .int (nI x.1), .int (bI x.2), .int ea, .int fa, .ref aCo, .int (nI CM)])), (aS, .inl (cy 2, 89, .inl (encT (nB σ) (vB σ) (hB σ) (pB σ) (mB σ) (nD σ) (bD σ) (lD σ) (uD σ) (qD σ) (wD σ) (nE σ) (kE σ) (bE σ) (lE σ) (tT σ) (dT σ) (aT σ) (rT σ) (hT σ) (xT σ)))), (aCo, .inl (cy 2, 240, .inl g))] := hD
  have hi12 : ∀ w ∈ wsX80, w ∈ wsX8_does := by decide +kernel
  have hf39 := hts (.fieldLink RX8 39 "BathLeagueModel" "commands" "[I") (by decide +kernel)
  have hN0 := ho.1
  have hM0 := ho.2.1
  refine lv_aload_n hxq hb dX8_does_0 rfl (lv_at hl 0 rfl) ?_
  refine va_get (D := G) (ci := 12) (v := .ref aCo) (C := RX8) (T := TX8) (N := 18) hxq hb hts hi12 hown hK.1 hP 0 rfl rfl 16 (by decide) hf39 (fun _ h9 => h9) rfl dX8_does_1 ?_
  refine lv_iconst (v := 4) hxq hb dX8_does_4 (by decide) ?_
  refine lv_iload_n hxq hb dX8_does_5 rfl (lv_at hl 1 rfl) ?_
  refine lv_imul hxq hb dX8_does_6 ?_
  refine lv_iconst (v := 1) hxq hb dX8_does_7 (by decide) ?_
  refine lv_iadd hxq hb dX8_does_8 ?_
  refine m_iald hxq hb hK hP 2 (k := (4 * i) + 1) rfl (m_add (m_mul rfl rfl) rfl) (by omega) (Nat.le_of_ble_eq_true rfl) dX8_does_9 ?_
  refine lv_t0 (show g ((4 * i) + 1) = a from e1) ?_
  refine lv_istore_n (lv' := [(2, .int a), (0, .ref am), (1, .int (nI i))]) hxq hb dX8_does_10 rfl hl (by decide) rfl (fun ls hl => ?_)
  refine lv_aload_n hxq hb dX8_does_11 rfl (lv_at hl 1 rfl) ?_
  refine va_get (D := G) (ci := 12) (v := .ref aCo) (C := RX8) (T := TX8) (N := 18) hxq hb hts hi12 hown hK.1 hP 0 rfl rfl 16 (by decide) hf39 (fun _ h9 => h9) rfl dX8_does_12 ?_
  refine lv_iconst (v := 4) hxq hb dX8_does_15 (by decide) ?_
  refine lv_iload_n hxq hb dX8_does_16 rfl (lv_at hl 2 rfl) ?_
  refine lv_imul hxq hb dX8_does_17 ?_
  refine lv_iconst (v := 2) hxq hb dX8_does_18 (by decide) ?_
  refine lv_iadd hxq hb dX8_does_19 ?_
  refine m_iald hxq hb hK hP 2 (k := (4 * i) + 2) rfl (m_add (m_mul rfl rfl) rfl) (by omega) (Nat.le_of_ble_eq_true rfl) dX8_does_20 ?_
  refine lv_t0 (show g ((4 * i) + 2) = b from e2) ?_
  refine lv_istore_n (lv' := [(3, .int b), (2, .int a), (0, .ref am), (1, .int (nI i))]) hxq hb dX8_does_21 rfl hl (by decide) rfl (fun ls hl => ?_)
  refine lv_aload_n hxq hb dX8_does_22 rfl (lv_at hl 2 rfl) ?_
  refine va_get (D := G) (ci := 12) (v := .ref aCo) (C := RX8) (T := TX8) (N := 18) hxq hb hts hi12 hown hK.1 hP 0 rfl rfl 16 (by decide) hf39 (fun _ h9 => h9) rfl dX8_does_23 ?_
  refine lv_iconst (v := 4) hxq hb dX8_does_26 (by decide) ?_
  refine lv_iload_n hxq hb dX8_does_27 rfl (lv_at hl 3 rfl) ?_
  refine lv_imul hxq hb dX8_does_28 ?_
  refine lv_iconst (v := 3) hxq hb dX8_does_29 (by decide) ?_
  refine lv_iadd hxq hb dX8_does_30 ?_
  refine m_iald hxq hb hK hP 2 (k := (4 * i) + 3) rfl (m_add (m_mul rfl rfl) rfl) (by omega) (Nat.le_of_ble_eq_true rfl) dX8_does_31 ?_
  refine lv_istore (lv' := [(4, .int (g ((4 * i) + 3))), (3, .int b), (2, .int a), (0, .ref am), (1, .int (nI i))]) hxq hb dX8_does_32 hl (by decide) rfl (fun ls hl => ?_)
  refine lv_aload_n hxq hb dX8_does_34 rfl (lv_at hl 3 rfl) ?_
  refine va_get (D := G) (ci := 12) (v := .ref aCo) (C := RX8) (T := TX8) (N := 18) hxq hb hts hi12 hown hK.1 hP 0 rfl rfl 16 (by decide) hf39 (fun _ h9 => h9) rfl dX8_does_35 ?_
  refine lv_iconst (v := 4) hxq hb dX8_does_38 (by decide) ?_
  refine lv_iload_n hxq hb dX8_does_39 rfl (lv_at hl 4 rfl) ?_
  refine lv_imul hxq hb dX8_does_40 ?_
  refine m_iald hxq hb hK hP 2 (k := 4 * i) rfl (m_mul rfl rfl) (by omega) (Nat.le_of_ble_eq_true rfl) dX8_does_41 ?_
  refine lv_t0 e0 ?_
  refine lv_tableIn (off := 114) (tgt := 156) hxq hb dX8_does_42 (by decide) (by decide) (by decide) (by decide) ?_
  refine lv_aload_n hxq hb dX8_does_156 rfl (lv_at hl 3 rfl) ?_
  refine lv_iload_n hxq hb dX8_does_157 rfl (lv_at hl 2 rfl) ?_
  refine lv_iload_n hxq hb dX8_does_158 rfl (lv_at hl 1 rfl) ?_
  refine lv_iconst (v := 1) hxq hb dX8_does_159 (by decide) ?_
  refine lv_icmp_ne (tgt := 167) hxq hb dX8_does_160 (by decide) (fun c_1 => ?_) (fun c_1 => ?_)
  · exact absurd h7 c_1
  · refine lv_iconst (v := 1) hxq hb dX8_does_163 (by decide) ?_
    refine lv_goto (tgt := 168) hxq hb dX8_does_164 (by decide) ?_
    refine c_wcVi (ws' := [(am, .inr (12, [.ref aS, .ref aBf, .ref aAs, .ref aSv, .int iS, .ref aPa, .int (nI K), .int (plgF (nB σ) a), .ref aOu, .int (nI OM), .ref aTx, .int (nI LN), .int (nI x.1), .int (bI x.2), .int ea, .int fa, .ref aCo, .int (nI CM)])), (aS, .inl (cy 2, 89, .inl (encT (nB σ) (vB σ) (hB σ) (pB σ) (mB σ) (nD σ) (bD σ) (lD σ) (uD σ) (qD σ) (wD σ) (nE σ) (kE σ) (bE σ) (lE σ) (tT σ) (dT σ) (aT σ) (rT σ) (hT σ) (xT σ)))), (aCo, .inl (cy 2, 240, .inl g))]) S9 (c_X8_doSetPlug_no l G cy am aS aBf aAs aSv aPa aOu aTx aCo K OM LN x.1 CM iS th (bI x.2) ea fa (nB σ) (vB σ) (hB σ) (pB σ) (mB σ) (nD σ) (bD σ) (lD σ) (uD σ) (qD σ) (wD σ) (nE σ) (kE σ) (bE σ) (lE σ) (tT σ) (dT σ) (aT σ) (rT σ) (hT σ) (xT σ) a 1 ho.1 hF) (cwV 2 hts gX8_does_X8_doSetPlug rfl rfl rfl (by decide +kernel) ⟨Nat.le_of_ble_eq_true rfl, Nat.le_of_ble_eq_true rfl⟩) PB.blind (va_recv hK.1 hP (ci := 12) (q0 := 0) rfl rfl) (PB.at hK (m_Ppart hP [0, 1] rfl)) hP hD hS [0, 1] rfl rfl m_f2 rfl rfl hl.1 rfl (Nat.le_of_ble_eq_true rfl) ⟨Nat.zero_le _, Nat.zero_le _⟩ dX8_does_168 (fun H locs hP hD hS => ?_)
    refine lv_istore (lv' := [(5, .int 0), (4, .int (g ((4 * i) + 3))), (3, .int b), (2, .int a), (0, .ref am), (1, .int (nI i))]) hxq hb dX8_does_171 hl (by decide) rfl (fun ls hl => ?_)
    refine lv_goto (tgt := 215) hxq hb dX8_does_173 (by decide) ?_
    exact wc_vret hxq hb hr hlocks hP hS dX8_does_215

set_option maxRecDepth 100000 in
set_option maxHeartbeats 1000000 in
theorem c_X8_does_plugO_ok (l : Launch) (G : va_G) (cy : Nat → ClassId) (am aS aBf aAs aSv aPa aOu aTx aCo K OM LN CM : Nat) (iS th ea fa : Int32) (σ : St) (x : Lx) (g : Nat → Int32) (i : Nat) (a b c : Int32) (ho : Ok σ) (hi : i < 60) (e0 : g (4 * i) = 112) (e1 : g (4 * i + 1) = a) (e2 : g (4 * i + 2) = b) (hb9 : a = nI (bx a)) (hbN : bx a < nB σ) (h7 : ¬ b = 1) (hF : plgF (nB σ) a = 0) : WC l yX8_does wsX8_does { frames := 6, cells := 0, slots := 0, locals := 136 } G (PB G cy [(am, .inr (12, [.ref aS, .ref aBf, .ref aAs, .ref aSv, .int iS, .ref aPa, .int (nI K), .int th, .ref aOu, .int (nI OM), .ref aTx, .int (nI LN), .int (nI x.1), .int (bI x.2), .int ea, .int fa, .ref aCo, .int (nI CM)])), (aS, .inl (cy 2, 89, .inl (encS σ))), (aCo, .inl (cy 2, 240, .inl g))]) [.ref am, .int (nI i)] [(am, .inr (12, [.ref aS, .ref aBf, .ref aAs, .ref aSv, .int iS, .ref aPa, .int (nI K), .int th, .ref aOu, .int (nI OM), .ref aTx, .int (nI LN), .int (nI x.1), .int (bI x.2), .int ea, .int fa, .ref aCo, .int (nI CM)])), (aS, .inl (cy 2, 89, .inl (encS σ))), (aCo, .inl (cy 2, 240, .inl g))] [(am, .inr (12, [.ref aS, .ref aBf, .ref aAs, .ref aSv, .int iS, .ref aPa, .int (nI K), .int th, .ref aOu, .int (nI OM), .ref aTx, .int (nI LN), .int (nI x.1), .int (bI x.2), .int ea, .int fa, .ref aCo, .int (nI CM)])), (aS, .inl (cy 2, 89, .inl (encS (pluS (bx a) 0 σ)))), (aCo, .inl (cy 2, 240, .inl g))] (none) := by
  refine WC.ofW (cc := cX8_does) (maxL := 6) (ret := none) (by decide) rfl (Nat.le_of_ble_eq_true rfl) ?_
  intro p e s m below meth cq S9 hr hlocks hPB hD hS ls hl
  obtain ⟨hxq, hb, hml, hown, hts⟩ := id S9
  obtain ⟨hP, hK⟩ := hPB
  have hl : lv_has ls 6 [(0, .ref am), (1, .int (nI i))] := hl
  have hP : va_P G vwCl [(am, .inr (12, [.ref aS, .ref aBf, .ref aAs, .ref aSv, .int iS, .ref aPa, .int (nI K), .int th, .ref aOu, .int (nI OM), .ref aTx, .int (nI LN), .int (nI x.1), .int (bI x.2), .int ea, .int fa, .ref aCo, .int (nI CM)])), (aS, .inl (cy 2, 89, .inl (encT (nB σ) (vB σ) (hB σ) (pB σ) (mB σ) (nD σ) (bD σ) (lD σ) (uD σ) (qD σ) (wD σ) (nE σ) (kE σ) (bE σ) (lE σ) (tT σ) (dT σ) (aT σ) (rT σ) (hT σ) (xT σ)))), (aCo, .inl (cy 2, 240, .inl g))] s.heap := hP
  have hD0 := hD
  have hD : va_D (wA [(am, .inr (12, [.ref aS, .ref aBf, .ref aAs, .ref aSv, .int iS, .ref aPa, .int (nI K), .int th, .ref aOu, .int (nI OM), .ref aTx, .int (nI LN), .int (nI x.1), .int (bI x.2), .int ea, .int fa, .ref aCo, .int (nI CM)])), (aS, .inl (cy 2, 89, .inl (encS σ))), (aCo, .inl (cy 2, 240, .inl g))]) [(am, .inr (12, [.ref aS, .ref aBf, .ref aAs, .ref aSv, .int iS, .ref aPa, .int (nI K), .int th, .ref aOu, .int (nI OM), .ref aTx, .int (nI LN), .int (nI x.1), .int (bI x.2), .int ea, .int fa, .ref aCo, .int (nI CM)])), (aS, .inl (cy 2, 89, .inl (encT (nB σ) (vB σ) (hB σ) (pB σ) (mB σ) (nD σ) (bD σ) (lD σ) (uD σ) (qD σ) (wD σ) (nE σ) (kE σ) (bE σ) (lE σ) (tT σ) (dT σ) (aT σ) (rT σ) (hT σ) (xT σ)))), (aCo, .inl (cy 2, 240, .inl g))] := hD
  have hi12 : ∀ w ∈ wsX80, w ∈ wsX8_does := by decide +kernel
  have hf39 := hts (.fieldLink RX8 39 "BathLeagueModel" "commands" "[I") (by decide +kernel)
  have hN0 := ho.1
  have hM0 := ho.2.1
  refine lv_aload_n hxq hb dX8_does_0 rfl (lv_at hl 0 rfl) ?_
  refine va_get (D := G) (ci := 12) (v := .ref aCo) (C := RX8) (T := TX8) (N := 18) hxq hb hts hi12 hown hK.1 hP 0 rfl rfl 16 (by decide) hf39 (fun _ h9 => h9) rfl dX8_does_1 ?_
  refine lv_iconst (v := 4) hxq hb dX8_does_4 (by decide) ?_
  refine lv_iload_n hxq hb dX8_does_5 rfl (lv_at hl 1 rfl) ?_
  refine lv_imul hxq hb dX8_does_6 ?_
  refine lv_iconst (v := 1) hxq hb dX8_does_7 (by decide) ?_
  refine lv_iadd hxq hb dX8_does_8 ?_
  refine m_iald hxq hb hK hP 2 (k := (4 * i) + 1) rfl (m_add (m_mul rfl rfl) rfl) (by omega) (Nat.le_of_ble_eq_true rfl) dX8_does_9 ?_
  refine lv_t0 (show g ((4 * i) + 1) = a from e1) ?_
  refine lv_istore_n (lv' := [(2, .int a), (0, .ref am), (1, .int (nI i))]) hxq hb dX8_does_10 rfl hl (by decide) rfl (fun ls hl => ?_)
  refine lv_aload_n hxq hb dX8_does_11 rfl (lv_at hl 1 rfl) ?_
  refine va_get (D := G) (ci := 12) (v := .ref aCo) (C := RX8) (T := TX8) (N := 18) hxq hb hts hi12 hown hK.1 hP 0 rfl rfl 16 (by decide) hf39 (fun _ h9 => h9) rfl dX8_does_12 ?_
  refine lv_iconst (v := 4) hxq hb dX8_does_15 (by decide) ?_
  refine lv_iload_n hxq hb dX8_does_16 rfl (lv_at hl 2 rfl) ?_
  refine lv_imul hxq hb dX8_does_17 ?_
  refine lv_iconst (v := 2) hxq hb dX8_does_18 (by decide) ?_
  refine lv_iadd hxq hb dX8_does_19 ?_
  refine m_iald hxq hb hK hP 2 (k := (4 * i) + 2) rfl (m_add (m_mul rfl rfl) rfl) (by omega) (Nat.le_of_ble_eq_true rfl) dX8_does_20 ?_
  refine lv_t0 (show g ((4 * i) + 2) = b from e2) ?_
  refine lv_istore_n (lv' := [(3, .int b), (2, .int a), (0, .ref am), (1, .int (nI i))]) hxq hb dX8_does_21 rfl hl (by decide) rfl (fun ls hl => ?_)
  refine lv_aload_n hxq hb dX8_does_22 rfl (lv_at hl 2 rfl) ?_
  refine va_get (D := G) (ci := 12) (v := .ref aCo) (C := RX8) (T := TX8) (N := 18) hxq hb hts hi12 hown hK.1 hP 0 rfl rfl 16 (by decide) hf39 (fun _ h9 => h9) rfl dX8_does_23 ?_
  refine lv_iconst (v := 4) hxq hb dX8_does_26 (by decide) ?_
  refine lv_iload_n hxq hb dX8_does_27 rfl (lv_at hl 3 rfl) ?_
  refine lv_imul hxq hb dX8_does_28 ?_
  refine lv_iconst (v := 3) hxq hb dX8_does_29 (by decide) ?_
  refine lv_iadd hxq hb dX8_does_30 ?_
  refine m_iald hxq hb hK hP 2 (k := (4 * i) + 3) rfl (m_add (m_mul rfl rfl) rfl) (by omega) (Nat.le_of_ble_eq_true rfl) dX8_does_31 ?_
  refine lv_istore (lv' := [(4, .int (g ((4 * i) + 3))), (3, .int b), (2, .int a), (0, .ref am), (1, .int (nI i))]) hxq hb dX8_does_32 hl (by decide) rfl (fun ls hl => ?_)
  refine lv_aload_n hxq hb dX8_does_34 rfl (lv_at hl 3 rfl) ?_
  refine va_get (D := G) (ci := 12) (v := .ref aCo) (C := RX8) (T := TX8) (N := 18) hxq hb hts hi12 hown hK.1 hP 0 rfl rfl 16 (by decide) hf39 (fun _ h9 => h9) rfl dX8_does_35 ?_
  refine lv_iconst (v := 4) hxq hb dX8_does_38 (by decide) ?_
  refine lv_iload_n hxq hb dX8_does_39 rfl (lv_at hl 4 rfl) ?_
  refine lv_imul hxq hb dX8_does_40 ?_
  refine m_iald hxq hb hK hP 2 (k := 4 * i) rfl (m_mul rfl rfl) (by omega) (Nat.le_of_ble_eq_true rfl) dX8_does_41 ?_
  refine lv_t0 e0 ?_
  refine lv_tableIn (off := 114) (tgt := 156) hxq hb dX8_does_42 (by decide) (by decide) (by decide) (by decide) ?_
  refine lv_aload_n hxq hb dX8_does_156 rfl (lv_at hl 3 rfl) ?_
  refine lv_iload_n hxq hb dX8_does_157 rfl (lv_at hl 2 rfl) ?_
  refine lv_iload_n hxq hb dX8_does_158 rfl (lv_at hl 1 rfl) ?_
  refine lv_iconst (v := 1) hxq hb dX8_does_159 (by decide) ?_
  refine lv_icmp_ne (tgt := 167) hxq hb dX8_does_160 (by decide) (fun c_1 => ?_) (fun c_1 => ?_)
  · refine lv_iconst (v := 0) hxq hb dX8_does_167 (by decide) ?_
    refine c_wcVi (ws' := [(am, .inr (12, [.ref aS, .ref aBf, .ref aAs, .ref aSv, .int iS, .ref aPa, .int (nI K), .int th, .ref aOu, .int (nI OM), .ref aTx, .int (nI LN), .int (nI x.1), .int (bI x.2), .int ea, .int fa, .ref aCo, .int (nI CM)])), (aS, .inl (cy 2, 89, .inl (encT (nB σ) (vB σ) (hB σ) (upd (pB σ) (bx a) 0) (mB σ) (nD σ) (bD σ) (lD σ) (uD σ) (qD σ) (wD σ) (nE σ) (kE σ) (bE σ) (lE σ) (tT σ) (dT σ) (aT σ) (rT σ) (hT σ) (xT σ)))), (aCo, .inl (cy 2, 240, .inl g))]) S9 (c_X8_doSetPlug_ok l G cy am aS aBf aAs aSv aPa aOu aTx aCo K OM LN x.1 CM iS th (bI x.2) ea fa (nB σ) (vB σ) (hB σ) (pB σ) (mB σ) (nD σ) (bD σ) (lD σ) (uD σ) (qD σ) (wD σ) (nE σ) (kE σ) (bE σ) (lE σ) (tT σ) (dT σ) (aT σ) (rT σ) (hT σ) (xT σ) a 0 ho.1 hF) (cwV 2 hts gX8_does_X8_doSetPlug rfl rfl rfl (by decide +kernel) ⟨Nat.le_of_ble_eq_true rfl, Nat.le_of_ble_eq_true rfl⟩) PB.blind (va_recv hK.1 hP (ci := 12) (q0 := 0) rfl rfl) (PB.at hK (m_Ppart hP [0, 1] rfl)) hP hD hS [0, 1] rfl rfl m_f2 rfl rfl hl.1 rfl (Nat.le_of_ble_eq_true rfl) ⟨Nat.zero_le _, Nat.zero_le _⟩ dX8_does_168 (fun H locs hP hD hS => ?_)
    have hP : va_P G vwCl [(am, .inr (12, [.ref aS, .ref aBf, .ref aAs, .ref aSv, .int iS, .ref aPa, .int (nI K), .int th, .ref aOu, .int (nI OM), .ref aTx, .int (nI LN), .int (nI x.1), .int (bI x.2), .int ea, .int fa, .ref aCo, .int (nI CM)])), (aS, .inl (cy 2, 89, .inl (encS (pluS (bx a) 0 σ)))), (aCo, .inl (cy 2, 240, .inl g))] H := by rw [show pluS (bx a) 0 σ = (((nB σ), (vB σ), (hB σ), (upd (pB σ) (bx a) 0), (mB σ)), ((nD σ), (bD σ), (lD σ), (uD σ), (qD σ), (wD σ)), ((nE σ), (kE σ), (bE σ), (lE σ)), ((tT σ), (dT σ), (aT σ), (rT σ), (hT σ), (xT σ))) from rfl, encS_mk]; exact hP
    have hD : va_D (wA [(am, .inr (12, [.ref aS, .ref aBf, .ref aAs, .ref aSv, .int iS, .ref aPa, .int (nI K), .int th, .ref aOu, .int (nI OM), .ref aTx, .int (nI LN), .int (nI x.1), .int (bI x.2), .int ea, .int fa, .ref aCo, .int (nI CM)])), (aS, .inl (cy 2, 89, .inl (encS σ))), (aCo, .inl (cy 2, 240, .inl g))]) [(am, .inr (12, [.ref aS, .ref aBf, .ref aAs, .ref aSv, .int iS, .ref aPa, .int (nI K), .int th, .ref aOu, .int (nI OM), .ref aTx, .int (nI LN), .int (nI x.1), .int (bI x.2), .int ea, .int fa, .ref aCo, .int (nI CM)])), (aS, .inl (cy 2, 89, .inl (encS (pluS (bx a) 0 σ)))), (aCo, .inl (cy 2, 240, .inl g))] := m_D3 hD0
    have hP : va_P G vwCl [(am, .inr (12, [.ref aS, .ref aBf, .ref aAs, .ref aSv, .int iS, .ref aPa, .int (nI K), .int th, .ref aOu, .int (nI OM), .ref aTx, .int (nI LN), .int (nI x.1), .int (bI x.2), .int ea, .int fa, .ref aCo, .int (nI CM)])), (aS, .inl (cy 2, 89, .inl (encT (nB (pluS (bx a) 0 σ)) (vB (pluS (bx a) 0 σ)) (hB (pluS (bx a) 0 σ)) (pB (pluS (bx a) 0 σ)) (mB (pluS (bx a) 0 σ)) (nD (pluS (bx a) 0 σ)) (bD (pluS (bx a) 0 σ)) (lD (pluS (bx a) 0 σ)) (uD (pluS (bx a) 0 σ)) (qD (pluS (bx a) 0 σ)) (wD (pluS (bx a) 0 σ)) (nE (pluS (bx a) 0 σ)) (kE (pluS (bx a) 0 σ)) (bE (pluS (bx a) 0 σ)) (lE (pluS (bx a) 0 σ)) (tT (pluS (bx a) 0 σ)) (dT (pluS (bx a) 0 σ)) (aT (pluS (bx a) 0 σ)) (rT (pluS (bx a) 0 σ)) (hT (pluS (bx a) 0 σ)) (xT (pluS (bx a) 0 σ))))), (aCo, .inl (cy 2, 240, .inl g))] H := hP
    have hD : va_D (wA [(am, .inr (12, [.ref aS, .ref aBf, .ref aAs, .ref aSv, .int iS, .ref aPa, .int (nI K), .int th, .ref aOu, .int (nI OM), .ref aTx, .int (nI LN), .int (nI x.1), .int (bI x.2), .int ea, .int fa, .ref aCo, .int (nI CM)])), (aS, .inl (cy 2, 89, .inl (encS σ))), (aCo, .inl (cy 2, 240, .inl g))]) [(am, .inr (12, [.ref aS, .ref aBf, .ref aAs, .ref aSv, .int iS, .ref aPa, .int (nI K), .int th, .ref aOu, .int (nI OM), .ref aTx, .int (nI LN), .int (nI x.1), .int (bI x.2), .int ea, .int fa, .ref aCo, .int (nI CM)])), (aS, .inl (cy 2, 89, .inl (encT (nB (pluS (bx a) 0 σ)) (vB (pluS (bx a) 0 σ)) (hB (pluS (bx a) 0 σ)) (pB (pluS (bx a) 0 σ)) (mB (pluS (bx a) 0 σ)) (nD (pluS (bx a) 0 σ)) (bD (pluS (bx a) 0 σ)) (lD (pluS (bx a) 0 σ)) (uD (pluS (bx a) 0 σ)) (qD (pluS (bx a) 0 σ)) (wD (pluS (bx a) 0 σ)) (nE (pluS (bx a) 0 σ)) (kE (pluS (bx a) 0 σ)) (bE (pluS (bx a) 0 σ)) (lE (pluS (bx a) 0 σ)) (tT (pluS (bx a) 0 σ)) (dT (pluS (bx a) 0 σ)) (aT (pluS (bx a) 0 σ)) (rT (pluS (bx a) 0 σ)) (hT (pluS (bx a) 0 σ)) (xT (pluS (bx a) 0 σ))))), (aCo, .inl (cy 2, 240, .inl g))] := hD
    refine lv_istore (lv' := [(5, .int (1 - (if (pB σ) (bx a) = 0 ∧ bx a < (nB σ) then 1 else 0))), (4, .int (g ((4 * i) + 3))), (3, .int b), (2, .int a), (0, .ref am), (1, .int (nI i))]) hxq hb dX8_does_171 hl (by decide) rfl (fun ls hl => ?_)
    refine lv_goto (tgt := 215) hxq hb dX8_does_173 (by decide) ?_
    exact wc_vret hxq hb hr hlocks hP hS dX8_does_215
  · exact absurd c_1 h7

set_option maxRecDepth 100000 in
set_option maxHeartbeats 1000000 in
theorem c_X8_does_plugO_no (l : Launch) (G : va_G) (cy : Nat → ClassId) (am aS aBf aAs aSv aPa aOu aTx aCo K OM LN CM : Nat) (iS th ea fa : Int32) (σ : St) (x : Lx) (g : Nat → Int32) (i : Nat) (a b c : Int32) (ho : Ok σ) (hi : i < 60) (e0 : g (4 * i) = 112) (e1 : g (4 * i + 1) = a) (e2 : g (4 * i + 2) = b) (h7 : ¬ b = 1) (hF : ¬ plgF (nB σ) a = 0) : WC l yX8_does wsX8_does { frames := 6, cells := 0, slots := 0, locals := 136 } G (PB G cy [(am, .inr (12, [.ref aS, .ref aBf, .ref aAs, .ref aSv, .int iS, .ref aPa, .int (nI K), .int th, .ref aOu, .int (nI OM), .ref aTx, .int (nI LN), .int (nI x.1), .int (bI x.2), .int ea, .int fa, .ref aCo, .int (nI CM)])), (aS, .inl (cy 2, 89, .inl (encS σ))), (aCo, .inl (cy 2, 240, .inl g))]) [.ref am, .int (nI i)] [(am, .inr (12, [.ref aS, .ref aBf, .ref aAs, .ref aSv, .int iS, .ref aPa, .int (nI K), .int th, .ref aOu, .int (nI OM), .ref aTx, .int (nI LN), .int (nI x.1), .int (bI x.2), .int ea, .int fa, .ref aCo, .int (nI CM)])), (aS, .inl (cy 2, 89, .inl (encS σ))), (aCo, .inl (cy 2, 240, .inl g))] [(am, .inr (12, [.ref aS, .ref aBf, .ref aAs, .ref aSv, .int iS, .ref aPa, .int (nI K), .int (plgF (nB σ) a), .ref aOu, .int (nI OM), .ref aTx, .int (nI LN), .int (nI x.1), .int (bI x.2), .int ea, .int fa, .ref aCo, .int (nI CM)])), (aS, .inl (cy 2, 89, .inl (encS σ))), (aCo, .inl (cy 2, 240, .inl g))] (none) := by
  refine WC.ofW (cc := cX8_does) (maxL := 6) (ret := none) (by decide) rfl (Nat.le_of_ble_eq_true rfl) ?_
  intro p e s m below meth cq S9 hr hlocks hPB hD hS ls hl
  obtain ⟨hxq, hb, hml, hown, hts⟩ := id S9
  obtain ⟨hP, hK⟩ := hPB
  have hl : lv_has ls 6 [(0, .ref am), (1, .int (nI i))] := hl
  have hP : va_P G vwCl [(am, .inr (12, [.ref aS, .ref aBf, .ref aAs, .ref aSv, .int iS, .ref aPa, .int (nI K), .int th, .ref aOu, .int (nI OM), .ref aTx, .int (nI LN), .int (nI x.1), .int (bI x.2), .int ea, .int fa, .ref aCo, .int (nI CM)])), (aS, .inl (cy 2, 89, .inl (encT (nB σ) (vB σ) (hB σ) (pB σ) (mB σ) (nD σ) (bD σ) (lD σ) (uD σ) (qD σ) (wD σ) (nE σ) (kE σ) (bE σ) (lE σ) (tT σ) (dT σ) (aT σ) (rT σ) (hT σ) (xT σ)))), (aCo, .inl (cy 2, 240, .inl g))] s.heap := hP
  have hD0 := hD
  have hD : va_D (wA [(am, .inr (12, [.ref aS, .ref aBf, .ref aAs, .ref aSv, .int iS, .ref aPa, .int (nI K), .int th, .ref aOu, .int (nI OM), .ref aTx, .int (nI LN), .int (nI x.1), .int (bI x.2), .int ea, .int fa, .ref aCo, .int (nI CM)])), (aS, .inl (cy 2, 89, .inl (encS σ))), (aCo, .inl (cy 2, 240, .inl g))]) [(am, .inr (12, [.ref aS, .ref aBf, .ref aAs, .ref aSv, .int iS, .ref aPa, .int (nI K), .int th, .ref aOu, .int (nI OM), .ref aTx, .int (nI LN), .int (nI x.1), .int (bI x.2), .int ea, .int fa, .ref aCo, .int (nI CM)])), (aS, .inl (cy 2, 89, .inl (encT (nB σ) (vB σ) (hB σ) (pB σ) (mB σ) (nD σ) (bD σ) (lD σ) (uD σ) (qD σ) (wD σ) (nE σ) (kE σ) (bE σ) (lE σ) (tT σ) (dT σ) (aT σ) (rT σ) (hT σ) (xT σ)))), (aCo, .inl (cy 2, 240, .inl g))] := hD
  have hi12 : ∀ w ∈ wsX80, w ∈ wsX8_does := by decide +kernel
  have hf39 := hts (.fieldLink RX8 39 "BathLeagueModel" "commands" "[I") (by decide +kernel)
  have hN0 := ho.1
  have hM0 := ho.2.1
  refine lv_aload_n hxq hb dX8_does_0 rfl (lv_at hl 0 rfl) ?_
  refine va_get (D := G) (ci := 12) (v := .ref aCo) (C := RX8) (T := TX8) (N := 18) hxq hb hts hi12 hown hK.1 hP 0 rfl rfl 16 (by decide) hf39 (fun _ h9 => h9) rfl dX8_does_1 ?_
  refine lv_iconst (v := 4) hxq hb dX8_does_4 (by decide) ?_
  refine lv_iload_n hxq hb dX8_does_5 rfl (lv_at hl 1 rfl) ?_
  refine lv_imul hxq hb dX8_does_6 ?_
  refine lv_iconst (v := 1) hxq hb dX8_does_7 (by decide) ?_
  refine lv_iadd hxq hb dX8_does_8 ?_
  refine m_iald hxq hb hK hP 2 (k := (4 * i) + 1) rfl (m_add (m_mul rfl rfl) rfl) (by omega) (Nat.le_of_ble_eq_true rfl) dX8_does_9 ?_
  refine lv_t0 (show g ((4 * i) + 1) = a from e1) ?_
  refine lv_istore_n (lv' := [(2, .int a), (0, .ref am), (1, .int (nI i))]) hxq hb dX8_does_10 rfl hl (by decide) rfl (fun ls hl => ?_)
  refine lv_aload_n hxq hb dX8_does_11 rfl (lv_at hl 1 rfl) ?_
  refine va_get (D := G) (ci := 12) (v := .ref aCo) (C := RX8) (T := TX8) (N := 18) hxq hb hts hi12 hown hK.1 hP 0 rfl rfl 16 (by decide) hf39 (fun _ h9 => h9) rfl dX8_does_12 ?_
  refine lv_iconst (v := 4) hxq hb dX8_does_15 (by decide) ?_
  refine lv_iload_n hxq hb dX8_does_16 rfl (lv_at hl 2 rfl) ?_
  refine lv_imul hxq hb dX8_does_17 ?_
  refine lv_iconst (v := 2) hxq hb dX8_does_18 (by decide) ?_
  refine lv_iadd hxq hb dX8_does_19 ?_
  refine m_iald hxq hb hK hP 2 (k := (4 * i) + 2) rfl (m_add (m_mul rfl rfl) rfl) (by omega) (Nat.le_of_ble_eq_true rfl) dX8_does_20 ?_
  refine lv_t0 (show g ((4 * i) + 2) = b from e2) ?_
  refine lv_istore_n (lv' := [(3, .int b), (2, .int a), (0, .ref am), (1, .int (nI i))]) hxq hb dX8_does_21 rfl hl (by decide) rfl (fun ls hl => ?_)
  refine lv_aload_n hxq hb dX8_does_22 rfl (lv_at hl 2 rfl) ?_
  refine va_get (D := G) (ci := 12) (v := .ref aCo) (C := RX8) (T := TX8) (N := 18) hxq hb hts hi12 hown hK.1 hP 0 rfl rfl 16 (by decide) hf39 (fun _ h9 => h9) rfl dX8_does_23 ?_
  refine lv_iconst (v := 4) hxq hb dX8_does_26 (by decide) ?_
  refine lv_iload_n hxq hb dX8_does_27 rfl (lv_at hl 3 rfl) ?_
  refine lv_imul hxq hb dX8_does_28 ?_
  refine lv_iconst (v := 3) hxq hb dX8_does_29 (by decide) ?_
  refine lv_iadd hxq hb dX8_does_30 ?_
  refine m_iald hxq hb hK hP 2 (k := (4 * i) + 3) rfl (m_add (m_mul rfl rfl) rfl) (by omega) (Nat.le_of_ble_eq_true rfl) dX8_does_31 ?_
  refine lv_istore (lv' := [(4, .int (g ((4 * i) + 3))), (3, .int b), (2, .int a), (0, .ref am), (1, .int (nI i))]) hxq hb dX8_does_32 hl (by decide) rfl (fun ls hl => ?_)
  refine lv_aload_n hxq hb dX8_does_34 rfl (lv_at hl 3 rfl) ?_
  refine va_get (D := G) (ci := 12) (v := .ref aCo) (C := RX8) (T := TX8) (N := 18) hxq hb hts hi12 hown hK.1 hP 0 rfl rfl 16 (by decide) hf39 (fun _ h9 => h9) rfl dX8_does_35 ?_
  refine lv_iconst (v := 4) hxq hb dX8_does_38 (by decide) ?_
  refine lv_iload_n hxq hb dX8_does_39 rfl (lv_at hl 4 rfl) ?_
  refine lv_imul hxq hb dX8_does_40 ?_
  refine m_iald hxq hb hK hP 2 (k := 4 * i) rfl (m_mul rfl rfl) (by omega) (Nat.le_of_ble_eq_true rfl) dX8_does_41 ?_
  refine lv_t0 e0 ?_
  refine lv_tableIn (off := 114) (tgt := 156) hxq hb dX8_does_42 (by decide) (by decide) (by decide) (by decide) ?_
  refine lv_aload_n hxq hb dX8_does_156 rfl (lv_at hl 3 rfl) ?_
  refine lv_iload_n hxq hb dX8_does_157 rfl (lv_at hl 2 rfl) ?_
  refine lv_iload_n hxq hb dX8_does_158 rfl (lv_at hl 1 rfl) ?_
  refine lv_iconst (v := 1) hxq hb dX8_does_159 (by decide) ?_
  refine lv_icmp_ne (tgt := 167) hxq hb dX8_does_160 (by decide) (fun c_1 => ?_) (fun c_1 => ?_)
  · refine lv_iconst (v := 0) hxq hb dX8_does_167 (by decide) ?_
    refine c_wcVi (ws' := [(am, .inr (12, [.ref aS, .ref aBf, .ref aAs, .ref aSv, .int iS, .ref aPa, .int (nI K), .int (plgF (nB σ) a), .ref aOu, .int (nI OM), .ref aTx, .int (nI LN), .int (nI x.1), .int (bI x.2), .int ea, .int fa, .ref aCo, .int (nI CM)])), (aS, .inl (cy 2, 89, .inl (encT (nB σ) (vB σ) (hB σ) (pB σ) (mB σ) (nD σ) (bD σ) (lD σ) (uD σ) (qD σ) (wD σ) (nE σ) (kE σ) (bE σ) (lE σ) (tT σ) (dT σ) (aT σ) (rT σ) (hT σ) (xT σ)))), (aCo, .inl (cy 2, 240, .inl g))]) S9 (c_X8_doSetPlug_no l G cy am aS aBf aAs aSv aPa aOu aTx aCo K OM LN x.1 CM iS th (bI x.2) ea fa (nB σ) (vB σ) (hB σ) (pB σ) (mB σ) (nD σ) (bD σ) (lD σ) (uD σ) (qD σ) (wD σ) (nE σ) (kE σ) (bE σ) (lE σ) (tT σ) (dT σ) (aT σ) (rT σ) (hT σ) (xT σ) a 0 ho.1 hF) (cwV 2 hts gX8_does_X8_doSetPlug rfl rfl rfl (by decide +kernel) ⟨Nat.le_of_ble_eq_true rfl, Nat.le_of_ble_eq_true rfl⟩) PB.blind (va_recv hK.1 hP (ci := 12) (q0 := 0) rfl rfl) (PB.at hK (m_Ppart hP [0, 1] rfl)) hP hD hS [0, 1] rfl rfl m_f2 rfl rfl hl.1 rfl (Nat.le_of_ble_eq_true rfl) ⟨Nat.zero_le _, Nat.zero_le _⟩ dX8_does_168 (fun H locs hP hD hS => ?_)
    refine lv_istore (lv' := [(5, .int 0), (4, .int (g ((4 * i) + 3))), (3, .int b), (2, .int a), (0, .ref am), (1, .int (nI i))]) hxq hb dX8_does_171 hl (by decide) rfl (fun ls hl => ?_)
    refine lv_goto (tgt := 215) hxq hb dX8_does_173 (by decide) ?_
    exact wc_vret hxq hb hr hlocks hP hS dX8_does_215
  · exact absurd c_1 h7
