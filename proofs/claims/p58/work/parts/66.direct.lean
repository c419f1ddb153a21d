/-! the class's methods that the law asks itself; the script's cells -/
theorem d_bathCount (l : Launch) (G : va_G) (cy : Nat → ClassId) (kS vS : Nat → Nat) (a : OA) (V : OV)  (ho : Ok V.σ) : LQ l yX7_bathCount 10 190 0 G cy kS vS a V V [.ref a.aX] (.int (nI (nB V.σ))) := LX.ofWC (fun u => ⟨u, o_bathCount l G cy kS vS a V u ho⟩)
theorem d_contentShare (l : Launch) (G : va_G) (cy : Nat → ClassId) (kS vS : Nat → Nat) (a : OA) (V : OV)  (ho : Ok V.σ) (h0 : ¬ nD V.σ = 0) : LQ l yX7_contentShare 10 190 0 G cy kS vS a V V [.ref a.aX] (.float (csh V.σ)) := LX.ofWC (fun u => ⟨u, o_contentShare l G cy kS vS a V u ho h0⟩)
theorem d_defectionTotal (l : Launch) (G : va_G) (cy : Nat → ClassId) (kS vS : Nat → Nat) (a : OA) (V : OV)  (ho : Ok V.σ) : LQ l yX7_defectionTotal 10 190 0 G cy kS vS a V V [.ref a.aX] (.int (dT V.σ)) := LX.ofWC (fun u => ⟨u, o_defectionTotal l G cy kS vS a V u ho⟩)
theorem d_drainedLitres (l : Launch) (G : va_G) (cy : Nat → ClassId) (kS vS : Nat → Nat) (a : OA) (V : OV)  (ho : Ok V.σ) : LQ l yX7_drainedLitres 10 190 0 G cy kS vS a V V [.ref a.aX] (.int (rT V.σ)) := LX.ofWC (fun u => ⟨u, o_drainedLitres l G cy kS vS a V u ho⟩)
theorem d_duckCount (l : Launch) (G : va_G) (cy : Nat → ClassId) (kS vS : Nat → Nat) (a : OA) (V : OV)  (ho : Ok V.σ) : LQ l yX7_duckCount 10 190 0 G cy kS vS a V V [.ref a.aX] (.int (nI (nD V.σ))) := LX.ofWC (fun u => ⟨u, o_duckCount l G cy kS vS a V u ho⟩)
theorem d_eventCount (l : Launch) (G : va_G) (cy : Nat → ClassId) (kS vS : Nat → Nat) (a : OA) (V : OV)  (ho : Ok V.σ) : LQ l yX7_eventCount 10 190 0 G cy kS vS a V V [.ref a.aX] (.int (nI (nE V.σ))) := LX.ofWC (fun u => ⟨u, o_eventCount l G cy kS vS a V u ho⟩)
theorem d_exactTemperature (l : Launch) (G : va_G) (cy : Nat → ClassId) (kS vS : Nat → Nat) (a : OA) (V : OV) (j : Nat) (ho : Ok V.σ) (hj : j < nB V.σ) (hwt : wet (vB V.σ) j = true) (hw : WtA (vB V.σ) (hB V.σ)) : LQ l yX7_exactTemperature 10 190 0 G cy kS vS a V V [.ref a.aX, .int (nI j)] (.double (FP.ddiv (FP.i2d (hB V.σ j)) (FP.i2d (vB V.σ j)))) := LX.ofWC (fun u => ⟨u, o_exactTemperature l G cy kS vS a V u j ho hj hwt hw⟩)
theorem d_heat (l : Launch) (G : va_G) (cy : Nat → ClassId) (kS vS : Nat → Nat) (a : OA) (V : OV) (j : Nat) (ho : Ok V.σ) (hj : j < nB V.σ) : LQ l yX7_heat 10 190 0 G cy kS vS a V V [.ref a.aX, .int (nI j)] (.int (hB V.σ j)) := LX.ofWC (fun u => ⟨u, o_heat l G cy kS vS a V u j ho hj⟩)
theorem d_isConsistent (l : Launch) (G : va_G) (cy : Nat → ClassId) (kS vS : Nat → Nat) (a : OA) (V : OV)  (ho : Ok V.σ) (hs1 : sumM (hB V.σ) (mB V.σ) (nB V.σ) = sumA (hB V.σ) (nB V.σ) - sumO (hB V.σ) (mB V.σ) (nB V.σ)) (hs2 : sumA (vB V.σ) (nB V.σ) = aT V.σ - rT V.σ) (hs3 : sumA (hB V.σ) (nB V.σ) = hT V.σ - xT V.σ) : LQ l yX7_isConsistent 10 190 0 G cy kS vS a V V [.ref a.aX] (.int 1) := LX.ofWC (fun u => ⟨u, o_isConsistent l G cy kS vS a V u ho hs1 hs2 hs3⟩)
theorem d_isMember (l : Launch) (G : va_G) (cy : Nat → ClassId) (kS vS : Nat → Nat) (a : OA) (V : OV) (j : Nat) (ho : Ok V.σ) (hj : j < nB V.σ) : LQ l yX7_isMember 10 190 0 G cy kS vS a V V [.ref a.aX, .int (nI j)] (.int (mB V.σ j)) := LX.ofWC (fun u => ⟨u, o_isMember l G cy kS vS a V u j ho hj⟩)
theorem d_isPlugged (l : Launch) (G : va_G) (cy : Nat → ClassId) (kS vS : Nat → Nat) (a : OA) (V : OV) (j : Nat) (ho : Ok V.σ) (hj : j < nB V.σ) : LQ l yX7_isPlugged 10 190 0 G cy kS vS a V V [.ref a.aX, .int (nI j)] (.int (pB V.σ j)) := LX.ofWC (fun u => ⟨u, o_isPlugged l G cy kS vS a V u j ho hj⟩)
theorem d_leagueHeat (l : Launch) (G : va_G) (cy : Nat → ClassId) (kS vS : Nat → Nat) (a : OA) (V : OV)  (ho : Ok V.σ) : LQ l yX7_leagueHeat 10 190 0 G cy kS vS a V V [.ref a.aX] (.int (sumM (hB V.σ) (mB V.σ) (nB V.σ))) := LX.ofWC (fun u => ⟨u, o_leagueHeat l G cy kS vS a V u ho⟩)
theorem d_leagueHeatByOthers (l : Launch) (G : va_G) (cy : Nat → ClassId) (kS vS : Nat → Nat) (a : OA) (V : OV)  (ho : Ok V.σ) : LQ l yX7_leagueHeatByOthers 10 190 0 G cy kS vS a V V [.ref a.aX] (.int (sumA (hB V.σ) (nB V.σ) - sumO (hB V.σ) (mB V.σ) (nB V.σ))) := LX.ofWC (fun u => ⟨u, o_leagueHeatByOthers l G cy kS vS a V u ho⟩)
theorem d_lostHeat (l : Launch) (G : va_G) (cy : Nat → ClassId) (kS vS : Nat → Nat) (a : OA) (V : OV)  (ho : Ok V.σ) : LQ l yX7_lostHeat 10 190 0 G cy kS vS a V V [.ref a.aX] (.int (xT V.σ)) := LX.ofWC (fun u => ⟨u, o_lostHeat l G cy kS vS a V u ho⟩)
theorem d_lowerBound (l : Launch) (G : va_G) (cy : Nat → ClassId) (kS vS : Nat → Nat) (a : OA) (V : OV) (j : Nat) (ho : Ok V.σ) (hj : j < nD V.σ) : LQ l yX7_lowerBound 10 190 0 G cy kS vS a V V [.ref a.aX, .int (nI j)] (.int (lD V.σ j)) := LX.ofWC (fun u => ⟨u, o_lowerBound l G cy kS vS a V u j ho hj⟩)
theorem d_memberCount (l : Launch) (G : va_G) (cy : Nat → ClassId) (kS vS : Nat → Nat) (a : OA) (V : OV)  (ho : Ok V.σ) : LQ l yX7_memberCount 10 190 0 G cy kS vS a V V [.ref a.aX] (.int (cntM (mB V.σ) (nB V.σ))) := LX.ofWC (fun u => ⟨u, o_memberCount l G cy kS vS a V u ho⟩)
theorem d_observedBath (l : Launch) (G : va_G) (cy : Nat → ClassId) (kS vS : Nat → Nat) (a : OA) (V : OV) (j : Nat) (ho : Ok V.σ) (hj : j < nD V.σ) : LQ l yX7_observedBath 10 190 0 G cy kS vS a V V [.ref a.aX, .int (nI j)] (.int (bD V.σ j)) := LX.ofWC (fun u => ⟨u, o_observedBath l G cy kS vS a V u j ho hj⟩)
theorem d_quacks (l : Launch) (G : va_G) (cy : Nat → ClassId) (kS vS : Nat → Nat) (a : OA) (V : OV) (j : Nat) (ho : Ok V.σ) (hj : j < nD V.σ) : LQ l yX7_quacks 10 190 0 G cy kS vS a V V [.ref a.aX, .int (nI j)] (.int (qD V.σ j)) := LX.ofWC (fun u => ⟨u, o_quacks l G cy kS vS a V u j ho hj⟩)
theorem d_tappedHeat (l : Launch) (G : va_G) (cy : Nat → ClassId) (kS vS : Nat → Nat) (a : OA) (V : OV)  (ho : Ok V.σ) : LQ l yX7_tappedHeat 10 190 0 G cy kS vS a V V [.ref a.aX] (.int (hT V.σ)) := LX.ofWC (fun u => ⟨u, o_tappedHeat l G cy kS vS a V u ho⟩)
theorem d_tappedLitres (l : Launch) (G : va_G) (cy : Nat → ClassId) (kS vS : Nat → Nat) (a : OA) (V : OV)  (ho : Ok V.σ) : LQ l yX7_tappedLitres 10 190 0 G cy kS vS a V V [.ref a.aX] (.int (aT V.σ)) := LX.ofWC (fun u => ⟨u, o_tappedLitres l G cy kS vS a V u ho⟩)
theorem d_temperature (l : Launch) (G : va_G) (cy : Nat → ClassId) (kS vS : Nat → Nat) (a : OA) (V : OV) (j : Nat) (ho : Ok V.σ) (hj : j < nB V.σ) (hwt : wet (vB V.σ) j = true) : LQ l yX7_temperature 10 190 0 G cy kS vS a V V [.ref a.aX, .int (nI j)] (.int (rdeg (hB V.σ j) (vB V.σ j))) := LX.ofWC (fun u => ⟨u, o_temperature l G cy kS vS a V u j ho hj hwt⟩)
theorem d_time (l : Launch) (G : va_G) (cy : Nat → ClassId) (kS vS : Nat → Nat) (a : OA) (V : OV)  (ho : Ok V.σ) : LQ l yX7_time 10 190 0 G cy kS vS a V V [.ref a.aX] (.int (tT V.σ)) := LX.ofWC (fun u => ⟨u, o_time l G cy kS vS a V u ho⟩)
theorem d_upperBound (l : Launch) (G : va_G) (cy : Nat → ClassId) (kS vS : Nat → Nat) (a : OA) (V : OV) (j : Nat) (ho : Ok V.σ) (hj : j < nD V.σ) : LQ l yX7_upperBound 10 190 0 G cy kS vS a V V [.ref a.aX, .int (nI j)] (.int (uD V.σ j)) := LX.ofWC (fun u => ⟨u, o_upperBound l G cy kS vS a V u j ho hj⟩)
theorem d_volume (l : Launch) (G : va_G) (cy : Nat → ClassId) (kS vS : Nat → Nat) (a : OA) (V : OV) (j : Nat) (ho : Ok V.σ) (hj : j < nB V.σ) : LQ l yX7_volume 10 190 0 G cy kS vS a V V [.ref a.aX, .int (nI j)] (.int (vB V.σ j)) := LX.ofWC (fun u => ⟨u, o_volume l G cy kS vS a V u j ho hj⟩)
set_option maxRecDepth 100000 in
set_option maxHeartbeats 1000000 in
theorem n_cell (l : Launch) (G : va_G) (cy : Nat → ClassId) (b : Nat) (L : Nat) (xs : Nat → Int32) (k : Nat) (hk : k < 1000) : RO l yL_cell wsL_law { frames := 0, cells := 0, slots := 0, locals := 0 } (fun U => va_X b L xs U U.heap ∧ b < U.heap.size ∧ L ≤ 260) [.ref b, .int (nI k)] (some (.int (cellF L xs k))) := by
  refine RO.ofB (cc := cL_cell) (maxL := 2) (ret := (some .int)) (by decide) (big_at 5 11 rfl) (Nat.le_of_ble_eq_true rfl) ?_
  intro p e s m below meth cq S9 hr hlocks hPB ls hl
  obtain ⟨hx, hb, hml, hown, hts⟩ := id S9
  obtain ⟨hX, hbl, hL⟩ := hPB
  have hl : lv_has ls 2 [(0, .ref b), (1, .int (nI k))] := hl
  refine lv_iload_n hx hb dL_cell_0 rfl (lv_at hl 1 rfl) ?_
  refine lv_aload_n hx hb dL_cell_1 rfl (lv_at hl 0 rfl) ?_
  refine va_slen (A := fun _ => False) hx hb hX hbl (fun z => z) va_S.rf dL_cell_2 ?_
  refine lv_icmp_ge (tgt := 12) hx hb dL_cell_3 (by decide) (fun c9 => ?_) (fun c9 => ?_)
  · have c8 : ¬ k < L := Nat.not_lt.mpr ((nI_leI (by omega) (by omega)).mp c9)
    refine lv_ldc hx hb hown (hts _ (big_at 5 12 rfl : Cond.constant RL 7 40503 ∈ wsL_law)) dL_cell_12 ?_
    refine lv_iload_n hx hb dL_cell_14 rfl (lv_at hl 1 rfl) ?_
    refine lv_imul hx hb dL_cell_15 ?_
    exact ro_iret hx hb hr hlocks (if_neg c8).symm dL_cell_16
  · have c8 : k < L := Nat.lt_of_not_le (fun z => c9 ((nI_leI (by omega) (by omega)).mpr z))
    refine lv_aload_n hx hb dL_cell_6 rfl (lv_at hl 0 rfl) ?_
    refine lv_iload_n hx hb dL_cell_7 rfl (lv_at hl 1 rfl) ?_
    refine va_sld (A := fun _ => False) hx hb hX hbl (fun z => z) va_S.rf (vp_in_nI c8 (by omega)) dL_cell_8 ?_
    rw [nI_clamp (by omega)]
    refine lv_goto (tgt := 16) hx hb dL_cell_9 (by decide) ?_
    exact ro_iret hx hb hr hlocks (if_pos c8).symm dL_cell_16
