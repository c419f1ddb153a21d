/-! the law's methods that ask once, 0 -/
def bz (x : Int32) : Int32 := if x = 0 then 0 else 1
set_option maxRecDepth 100000 in
set_option maxHeartbeats 1000000 in
theorem q_addBath (l : Launch) (G : va_G) (cy : Nat → ClassId) (kS vS : Nat → Nat) (a : OA) (V : OV)  (ho : Ok V.σ) (hnx : V.nx < 8) (hct : V.ct ≤ 8) (h5 : nB V.σ < 5) (hF : (if nB V.σ < 5 then (0 : Int32) else 3) = 0) : LQ l yL_addBath 11 220 1 G cy kS vS a V (OV.mk (plcS V.σ) (updR V.ρ V.nx V.σ) ((V.nx + 1) % 8) (kInc V.ct) V.LN V.f V.nb V.fb) [.ref a.aX] (.int (nI (nB V.σ))) := by
  refine LX.ofWX (cc := cL_addBath) (maxL := 2) (ret := (some .int)) (hh := [(0, 4, 5, 14)]) (by decide) (big_at 5 15 rfl) (Nat.le_of_ble_eq_true rfl) ?_
  intro p e s m below meth cq u S9 hr hlocks htab hPQ hD hS hA ls hl
  obtain ⟨hx, hb, hml, hown, hts⟩ := id S9
  have hLF := LF.mk hPQ
  have hP := hPQ.1.1
  have hl : lv_has ls 2 [(0, .ref a.aX)] := hl
  refine lv_aload_n hx hb dL_addBath_0 rfl (lv_at hl 0 rfl) ?_
  refine wr_V S9 hLF (o_addBath l G cy kS vS a V u ho hnx hct h5 hF) (bigV 0 hts (big_at 5 17 rfl) (big_at 0 6 rfl) (big_at 5 20 rfl) (big_at 5 18 rfl) (big_at 5 19 rfl) rfl rfl (by decide +kernel) ⟨Nat.le_of_ble_eq_true rfl, Nat.le_of_ble_eq_true rfl⟩) hP hD hS hA rfl hl.1 rfl (Nat.le_of_ble_eq_true rfl) ⟨Nat.zero_le _, Nat.zero_le _⟩ dL_addBath_1 (fun H locs hP hD hS => ?_)
  exact lx_iret (ex := []) hx hb hr hlocks ⟨rfl, rfl⟩ hP hS (Nat.zero_le _) (Nat.zero_le _) dL_addBath_4
set_option maxRecDepth 100000 in
set_option maxHeartbeats 1000000 in
theorem q_addBath_3 (l : Launch) (G : va_G) (cy : Nat → ClassId) (kS vS : Nat → Nat) (a : OA) (V : OV)  (hl9 : l.stackTraces = false) (ho : Ok V.σ) (hF : (if nB V.σ < 5 then (0 : Int32) else 3) = 3) : LQ l yL_addBath 11 220 1 G cy kS vS a V V [.ref a.aX] (.int (-1)) := by
  refine LX.ofWX (cc := cL_addBath) (maxL := 2) (ret := (some .int)) (hh := [(0, 4, 5, 14)]) (by decide) (big_at 5 15 rfl) (Nat.le_of_ble_eq_true rfl) ?_
  intro p e s m below meth cq u S9 hr hlocks htab hPQ hD hS hA ls hl
  obtain ⟨hx, hb, hml, hown, hts⟩ := id S9
  have hLF := LF.mk hPQ
  have hP := hPQ.1.1
  have hl : lv_has ls 2 [(0, .ref a.aX)] := hl
  refine lv_aload_n hx hb dL_addBath_0 rfl (lv_at hl 0 rfl) ?_
  refine wr_T S9 hLF (o_addBath_3 l G cy kS vS a V u hl9 ho hF) (bigV 0 hts (big_at 5 17 rfl) (big_at 0 6 rfl) (big_at 5 20 rfl) (big_at 5 18 rfl) (big_at 5 19 rfl) rfl rfl (by decide +kernel) ⟨Nat.le_of_ble_eq_true rfl, Nat.le_of_ble_eq_true rfl⟩) hP hD hS hA rfl hl.1 rfl (Nat.le_of_ble_eq_true rfl) ⟨Nat.le_of_ble_eq_true rfl, Nat.le_of_ble_eq_true rfl⟩ dL_addBath_1 (tableOf []) ⟨0, 4, 5, 14⟩ (tableOf []) (htab.trans rfl) (by intro z hz; cases hz) (by decide) (by decide) (nwl hLF.2.2.1 (.classLink RL 14 xISE) (by decide +kernel)) (hLF.2.2.1.2.2.1 (.castable xISE xISE) (by decide +kernel)) (fun H locs qx hP hD hS => ?_)
  refine lv_astore_n (lv' := [(1, .ref qx), (0, .ref a.aX)]) hx hb dL_addBath_5 rfl hl (by decide) rfl (fun ls hl => ?_)
  refine lv_iconst (v := (-1)) hx hb dL_addBath_6 (by decide) ?_
  exact lx_iret (ex := []) hx hb hr hlocks ⟨rfl, rfl⟩ hP hS (Nat.le_of_ble_eq_true rfl) (Nat.le_of_ble_eq_true rfl) dL_addBath_7
set_option maxRecDepth 100000 in
set_option maxHeartbeats 1000000 in
theorem q_runTap (l : Launch) (G : va_G) (cy : Nat → ClassId) (kS vS : Nat → Nat) (a : OA) (V : OV) (j : Nat) (t : Int32) (q : Int32) (ho : Ok V.σ) (hnx : V.nx < 8) (hct : V.ct ≤ 8) (hj : j < nB V.σ) (ht9 : tapB t = true) (hF : filF (nB V.σ) (vB V.σ) (nI j) t q = 0) : LQ l yL_runTap 11 220 1 G cy kS vS a V (OV.mk (filS j q (q * (10 + 30 * t)) V.σ) (updR V.ρ V.nx V.σ) ((V.nx + 1) % 8) (kInc V.ct) V.LN V.f V.nb V.fb) [.ref a.aX, .int (nI j), .int t, .int q] (.int (vB (filS j q (q * (10 + 30 * t)) V.σ) j)) := by
  refine LX.ofWX (cc := cL_runTap) (maxL := 5) (ret := (some .int)) (hh := [(0, 7, 8, 20), (0, 7, 12, 22), (0, 7, 17, 24)]) (by decide) (big_at 8 2 rfl) (Nat.le_of_ble_eq_true rfl) ?_
  intro p e s m below meth cq u S9 hr hlocks htab hPQ hD hS hA ls hl
  obtain ⟨hx, hb, hml, hown, hts⟩ := id S9
  have hLF := LF.mk hPQ
  have hP := hPQ.1.1
  have hl : lv_has ls 5 [(0, .ref a.aX), (1, .int (nI j)), (2, .int t), (3, .int q)] := hl
  refine lv_aload_n hx hb dL_runTap_0 rfl (lv_at hl 0 rfl) ?_
  refine lv_iload_n hx hb dL_runTap_1 rfl (lv_at hl 1 rfl) ?_
  refine lv_iload_n hx hb dL_runTap_2 rfl (lv_at hl 2 rfl) ?_
  refine lv_iload_n hx hb dL_runTap_3 rfl (lv_at hl 3 rfl) ?_
  refine wr_V S9 hLF (o_runTap l G cy kS vS a V u j t q ho hnx hct hj ht9 hF) (bigV 3 hts (big_at 8 4 rfl) (big_at 0 6 rfl) (big_at 8 7 rfl) (big_at 8 5 rfl) (big_at 8 6 rfl) rfl rfl (by decide +kernel) ⟨Nat.le_of_ble_eq_true rfl, Nat.le_of_ble_eq_true rfl⟩) hP hD hS hA rfl hl.1 rfl (Nat.le_of_ble_eq_true rfl) ⟨Nat.zero_le _, Nat.zero_le _⟩ dL_runTap_4 (fun H locs hP hD hS => ?_)
  exact lx_iret (ex := []) hx hb hr hlocks ⟨rfl, rfl⟩ hP hS (Nat.zero_le _) (Nat.zero_le _) dL_runTap_7
set_option maxRecDepth 100000 in
set_option maxHeartbeats 1000000 in
theorem q_runTap_1 (l : Launch) (G : va_G) (cy : Nat → ClassId) (kS vS : Nat → Nat) (a : OA) (V : OV) (b : Int32) (t : Int32) (q : Int32) (hl9 : l.stackTraces = false) (ho : Ok V.σ) (hF : filF (nB V.σ) (vB V.σ) b t q = 1) : LQ l yL_runTap 11 220 1 G cy kS vS a V V [.ref a.aX, .int b, .int t, .int q] (.int (-1)) := by
  refine LX.ofWX (cc := cL_runTap) (maxL := 5) (ret := (some .int)) (hh := [(0, 7, 8, 20), (0, 7, 12, 22), (0, 7, 17, 24)]) (by decide) (big_at 8 2 rfl) (Nat.le_of_ble_eq_true rfl) ?_
  intro p e s m below meth cq u S9 hr hlocks htab hPQ hD hS hA ls hl
  obtain ⟨hx, hb, hml, hown, hts⟩ := id S9
  have hLF := LF.mk hPQ
  have hP := hPQ.1.1
  have hl : lv_has ls 5 [(0, .ref a.aX), (1, .int b), (2, .int t), (3, .int q)] := hl
  refine lv_aload_n hx hb dL_runTap_0 rfl (lv_at hl 0 rfl) ?_
  refine lv_iload_n hx hb dL_runTap_1 rfl (lv_at hl 1 rfl) ?_
  refine lv_iload_n hx hb dL_runTap_2 rfl (lv_at hl 2 rfl) ?_
  refine lv_iload_n hx hb dL_runTap_3 rfl (lv_at hl 3 rfl) ?_
  refine wr_T S9 hLF (o_runTap_1 l G cy kS vS a V u b t q hl9 ho hF) (bigV 3 hts (big_at 8 4 rfl) (big_at 0 6 rfl) (big_at 8 7 rfl) (big_at 8 5 rfl) (big_at 8 6 rfl) rfl rfl (by decide +kernel) ⟨Nat.le_of_ble_eq_true rfl, Nat.le_of_ble_eq_true rfl⟩) hP hD hS hA rfl hl.1 rfl (Nat.le_of_ble_eq_true rfl) ⟨Nat.le_of_ble_eq_true rfl, Nat.le_of_ble_eq_true rfl⟩ dL_runTap_4 (tableOf []) ⟨0, 7, 8, 20⟩ (tableOf [(0, 7, 12, 22), (0, 7, 17, 24)]) (htab.trans rfl) (by intro z hz; cases hz) (by decide) (by decide) (nwl hLF.2.2.1 (.classLink RL 20 xIOB) (by decide +kernel)) (hLF.2.2.1.2.2.1 (.castable xIOB xIOB) (by decide +kernel)) (fun H locs qx hP hD hS => ?_)
  refine lv_astore (lv' := [(4, .ref qx), (0, .ref a.aX), (1, .int b), (2, .int t), (3, .int q)]) hx hb dL_runTap_8 hl (by decide) rfl (fun ls hl => ?_)
  refine lv_iconst (v := (-1)) hx hb dL_runTap_10 (by decide) ?_
  exact lx_iret (ex := []) hx hb hr hlocks ⟨rfl, rfl⟩ hP hS (Nat.le_of_ble_eq_true rfl) (Nat.le_of_ble_eq_true rfl) dL_runTap_11
set_option maxRecDepth 100000 in
set_option maxHeartbeats 1000000 in
theorem q_runTap_2 (l : Launch) (G : va_G) (cy : Nat → ClassId) (kS vS : Nat → Nat) (a : OA) (V : OV) (b : Int32) (t : Int32) (q : Int32) (hl9 : l.stackTraces = false) (ho : Ok V.σ) (hF : filF (nB V.σ) (vB V.σ) b t q = 2) : LQ l yL_runTap 11 220 1 G cy kS vS a V V [.ref a.aX, .int b, .int t, .int q] (.int (-2)) := by
  refine LX.ofWX (cc := cL_runTap) (maxL := 5) (ret := (some .int)) (hh := [(0, 7, 8, 20), (0, 7, 12, 22), (0, 7, 17, 24)]) (by decide) (big_at 8 2 rfl) (Nat.le_of_ble_eq_true rfl) ?_
  intro p e s m below meth cq u S9 hr hlocks htab hPQ hD hS hA ls hl
  obtain ⟨hx, hb, hml, hown, hts⟩ := id S9
  have hLF := LF.mk hPQ
  have hP := hPQ.1.1
  have hl : lv_has ls 5 [(0, .ref a.aX), (1, .int b), (2, .int t), (3, .int q)] := hl
  refine lv_aload_n hx hb dL_runTap_0 rfl (lv_at hl 0 rfl) ?_
  refine lv_iload_n hx hb dL_runTap_1 rfl (lv_at hl 1 rfl) ?_
  refine lv_iload_n hx hb dL_runTap_2 rfl (lv_at hl 2 rfl) ?_
  refine lv_iload_n hx hb dL_runTap_3 rfl (lv_at hl 3 rfl) ?_
  refine wr_T S9 hLF (o_runTap_2 l G cy kS vS a V u b t q hl9 ho hF) (bigV 3 hts (big_at 8 4 rfl) (big_at 0 6 rfl) (big_at 8 7 rfl) (big_at 8 5 rfl) (big_at 8 6 rfl) rfl rfl (by decide +kernel) ⟨Nat.le_of_ble_eq_true rfl, Nat.le_of_ble_eq_true rfl⟩) hP hD hS hA rfl hl.1 rfl (Nat.le_of_ble_eq_true rfl) ⟨Nat.le_of_ble_eq_true rfl, Nat.le_of_ble_eq_true rfl⟩ dL_runTap_4 (tableOf [(0, 7, 8, 20)]) ⟨0, 7, 12, 22⟩ (tableOf [(0, 7, 17, 24)]) (htab.trans rfl) (by intro z hz; simp only [tableOf, List.map_cons, List.map_nil, List.mem_cons, List.not_mem_nil, or_false] at hz; rcases hz with rfl <;> first | exact Or.inr ⟨by decide, xIOB, nwl hLF.2.2.1 (.classLink RL 20 xIOB) (by decide +kernel), hLF.2.2.1.2.2.2.2 (xIAE, xIOB) (by decide +kernel)⟩) (by decide) (by decide) (nwl hLF.2.2.1 (.classLink RL 22 xIAE) (by decide +kernel)) (hLF.2.2.1.2.2.1 (.castable xIAE xIAE) (by decide +kernel)) (fun H locs qx hP hD hS => ?_)
  refine lv_astore (lv' := [(4, .ref qx), (0, .ref a.aX), (1, .int b), (2, .int t), (3, .int q)]) hx hb dL_runTap_12 hl (by decide) rfl (fun ls hl => ?_)
  refine lv_bipush (v := (-2)) hx hb dL_runTap_14 (by decide) ?_
  exact lx_iret (ex := []) hx hb hr hlocks ⟨rfl, rfl⟩ hP hS (Nat.le_of_ble_eq_true rfl) (Nat.le_of_ble_eq_true rfl) dL_runTap_16
set_option maxRecDepth 100000 in
set_option maxHeartbeats 1000000 in
theorem q_runTap_5 (l : Launch) (G : va_G) (cy : Nat → ClassId) (kS vS : Nat → Nat) (a : OA) (V : OV) (b : Int32) (t : Int32) (q : Int32) (hl9 : l.stackTraces = false) (ho : Ok V.σ) (hF : filF (nB V.σ) (vB V.σ) b t q = 5) : LQ l yL_runTap 11 220 1 G cy kS vS a V V [.ref a.aX, .int b, .int t, .int q] (.int (-3)) := by
  refine LX.ofWX (cc := cL_runTap) (maxL := 5) (ret := (some .int)) (hh := [(0, 7, 8, 20), (0, 7, 12, 22), (0, 7, 17, 24)]) (by decide) (big_at 8 2 rfl) (Nat.le_of_ble_eq_true rfl) ?_
  intro p e s m below meth cq u S9 hr hlocks htab hPQ hD hS hA ls hl
  obtain ⟨hx, hb, hml, hown, hts⟩ := id S9
  have hLF := LF.mk hPQ
  have hP := hPQ.1.1
  have hl : lv_has ls 5 [(0, .ref a.aX), (1, .int b), (2, .int t), (3, .int q)] := hl
  refine lv_aload_n hx hb dL_runTap_0 rfl (lv_at hl 0 rfl) ?_
  refine lv_iload_n hx hb dL_runTap_1 rfl (lv_at hl 1 rfl) ?_
  refine lv_iload_n hx hb dL_runTap_2 rfl (lv_at hl 2 rfl) ?_
  refine lv_iload_n hx hb dL_runTap_3 rfl (lv_at hl 3 rfl) ?_
  refine wr_T S9 hLF (o_runTap_5 l G cy kS vS a V u b t q hl9 ho hF) (bigV 3 hts (big_at 8 4 rfl) (big_at 0 6 rfl) (big_at 8 7 rfl) (big_at 8 5 rfl) (big_at 8 6 rfl) rfl rfl (by decide +kernel) ⟨Nat.le_of_ble_eq_true rfl, Nat.le_of_ble_eq_true rfl⟩) hP hD hS hA rfl hl.1 rfl (Nat.le_of_ble_eq_true rfl) ⟨Nat.le_of_ble_eq_true rfl, Nat.le_of_ble_eq_true rfl⟩ dL_runTap_4 (tableOf [(0, 7, 8, 20), (0, 7, 12, 22)]) ⟨0, 7, 17, 24⟩ (tableOf []) (htab.trans rfl) (by intro z hz; simp only [tableOf, List.map_cons, List.map_nil, List.mem_cons, List.not_mem_nil, or_false] at hz; rcases hz with rfl | rfl <;> first | exact Or.inr ⟨by decide, xIOB, nwl hLF.2.2.1 (.classLink RL 20 xIOB) (by decide +kernel), hLF.2.2.1.2.2.2.2 (xUOE, xIOB) (by decide +kernel)⟩ | exact Or.inr ⟨by decide, xIAE, nwl hLF.2.2.1 (.classLink RL 22 xIAE) (by decide +kernel), hLF.2.2.1.2.2.2.2 (xUOE, xIAE) (by decide +kernel)⟩) (by decide) (by decide) (nwl hLF.2.2.1 (.classLink RL 24 xUOE) (by decide +kernel)) (hLF.2.2.1.2.2.1 (.castable xUOE xUOE) (by decide +kernel)) (fun H locs qx hP hD hS => ?_)
  refine lv_astore (lv' := [(4, .ref qx), (0, .ref a.aX), (1, .int b), (2, .int t), (3, .int q)]) hx hb dL_runTap_17 hl (by decide) rfl (fun ls hl => ?_)
  refine lv_bipush (v := (-3)) hx hb dL_runTap_19 (by decide) ?_
  exact lx_iret (ex := []) hx hb hr hlocks ⟨rfl, rfl⟩ hP hS (Nat.le_of_ble_eq_true rfl) (Nat.le_of_ble_eq_true rfl) dL_runTap_21
set_option maxRecDepth 100000 in
set_option maxHeartbeats 1000000 in
theorem q_setPlug (l : Launch) (G : va_G) (cy : Nat → ClassId) (kS vS : Nat → Nat) (a : OA) (V : OV) (j : Nat) (x : Int32) (ho : Ok V.σ) (hnx : V.nx < 8) (hct : V.ct ≤ 8) (hj : j < nB V.σ) (hx9 : vp_nar .boolean x = x) (hF : plgF (nB V.σ) (nI j) = 0) : LQ l yL_setPlug 11 220 1 G cy kS vS a V (OV.mk (pluS j x V.σ) (updR V.ρ V.nx V.σ) ((V.nx + 1) % 8) (kInc V.ct) V.LN V.f V.nb V.fb) [.ref a.aX, .int (nI j), .int x] (.int (bz (pB V.σ j))) := by
  refine LX.ofWX (cc := cL_setPlug) (maxL := 4) (ret := (some .int)) (hh := [(0, 14, 15, 20)]) (by decide) (big_at 10 3 rfl) (Nat.le_of_ble_eq_true rfl) ?_
  intro p e s m below meth cq u S9 hr hlocks htab hPQ hD hS hA ls hl
  obtain ⟨hx, hb, hml, hown, hts⟩ := id S9
  have hLF := LF.mk hPQ
  have hP := hPQ.1.1
  have hl : lv_has ls 4 [(0, .ref a.aX), (1, .int (nI j)), (2, .int x)] := hl
  refine lv_aload_n hx hb dL_setPlug_0 rfl (lv_at hl 0 rfl) ?_
  refine lv_iload_n hx hb dL_setPlug_1 rfl (lv_at hl 1 rfl) ?_
  refine lv_iload_n hx hb dL_setPlug_2 rfl (lv_at hl 2 rfl) ?_
  refine wr_V S9 hLF (o_setPlug l G cy kS vS a V u j x ho hnx hct hj hx9 hF) (bigV 2 hts (big_at 10 4 rfl) (big_at 0 6 rfl) (big_at 10 7 rfl) (big_at 10 5 rfl) (big_at 10 6 rfl) rfl rfl (by decide +kernel) ⟨Nat.le_of_ble_eq_true rfl, Nat.le_of_ble_eq_true rfl⟩) hP hD hS hA rfl hl.1 rfl (Nat.le_of_ble_eq_true rfl) ⟨Nat.zero_le _, Nat.zero_le _⟩ dL_setPlug_3 (fun H locs hP hD hS => ?_)
  refine lv_if_eq (tgt := 13) hx hb dL_setPlug_6 (by decide) (fun c9 => ?_) (fun c9 => ?_)
  · refine lv_iconst (v := 0) hx hb dL_setPlug_13 (by decide) ?_
    exact lx_iret (ex := []) hx hb hr hlocks ⟨rfl, congrArg Value.int (show (0 : Int32) = bz (pB V.σ j) from (if_pos c9).symm).symm.symm⟩ hP hS (Nat.zero_le _) (Nat.zero_le _) dL_setPlug_14
  · refine lv_iconst (v := 1) hx hb dL_setPlug_9 (by decide) ?_
    refine lv_goto (tgt := 14) hx hb dL_setPlug_10 (by decide) ?_
    exact lx_iret (ex := []) hx hb hr hlocks ⟨rfl, congrArg Value.int (show (1 : Int32) = bz (pB V.σ j) from (if_neg c9).symm).symm.symm⟩ hP hS (Nat.zero_le _) (Nat.zero_le _) dL_setPlug_14
set_option maxRecDepth 100000 in
set_option maxHeartbeats 1000000 in
theorem q_setPlug_1 (l : Launch) (G : va_G) (cy : Nat → ClassId) (kS vS : Nat → Nat) (a : OA) (V : OV) (b : Int32) (x : Int32) (hl9 : l.stackTraces = false) (ho : Ok V.σ) (hF : plgF (nB V.σ) b = 1) : LQ l yL_setPlug 11 220 1 G cy kS vS a V V [.ref a.aX, .int b, .int x] (.int (-1)) := by
  refine LX.ofWX (cc := cL_setPlug) (maxL := 4) (ret := (some .int)) (hh := [(0, 14, 15, 20)]) (by decide) (big_at 10 3 rfl) (Nat.le_of_ble_eq_true rfl) ?_
  intro p e s m below meth cq u S9 hr hlocks htab hPQ hD hS hA ls hl
  obtain ⟨hx, hb, hml, hown, hts⟩ := id S9
  have hLF := LF.mk hPQ
  have hP := hPQ.1.1
  have hl : lv_has ls 4 [(0, .ref a.aX), (1, .int b), (2, .int x)] := hl
  refine lv_aload_n hx hb dL_setPlug_0 rfl (lv_at hl 0 rfl) ?_
  refine lv_iload_n hx hb dL_setPlug_1 rfl (lv_at hl 1 rfl) ?_
  refine lv_iload_n hx hb dL_setPlug_2 rfl (lv_at hl 2 rfl) ?_
  refine wr_T S9 hLF (o_setPlug_1 l G cy kS vS a V u b x hl9 ho hF) (bigV 2 hts (big_at 10 4 rfl) (big_at 0 6 rfl) (big_at 10 7 rfl) (big_at 10 5 rfl) (big_at 10 6 rfl) rfl rfl (by decide +kernel) ⟨Nat.le_of_ble_eq_true rfl, Nat.le_of_ble_eq_true rfl⟩) hP hD hS hA rfl hl.1 rfl (Nat.le_of_ble_eq_true rfl) ⟨Nat.le_of_ble_eq_true rfl, Nat.le_of_ble_eq_true rfl⟩ dL_setPlug_3 (tableOf []) ⟨0, 14, 15, 20⟩ (tableOf []) (htab.trans rfl) (by intro z hz; cases hz) (by decide) (by decide) (nwl hLF.2.2.1 (.classLink RL 20 xIOB) (by decide +kernel)) (hLF.2.2.1.2.2.1 (.castable xIOB xIOB) (by decide +kernel)) (fun H locs qx hP hD hS => ?_)
  refine lv_astore_n (lv' := [(3, .ref qx), (0, .ref a.aX), (1, .int b), (2, .int x)]) hx hb dL_setPlug_15 rfl hl (by decide) rfl (fun ls hl => ?_)
  refine lv_iconst (v := (-1)) hx hb dL_setPlug_16 (by decide) ?_
  exact lx_iret (ex := []) hx hb hr hlocks ⟨rfl, rfl⟩ hP hS (Nat.le_of_ble_eq_true rfl) (Nat.le_of_ble_eq_true rfl) dL_setPlug_17
set_option maxRecDepth 100000 in
set_option maxHeartbeats 1000000 in
theorem q_pour (l : Launch) (G : va_G) (cy : Nat → ClassId) (kS vS : Nat → Nat) (a : OA) (V : OV) (i : Nat) (j : Nat) (q : Int32) (ho : Ok V.σ) (hnx : V.nx < 8) (hct : V.ct ≤ 8) (hi9 : i < nB V.σ) (hj : j < nB V.σ) (hF : traF (nB V.σ) (vB V.σ) (nI i) (nI j) q = 0) : LQ l yL_pour 11 220 1 G cy kS vS a V (OV.mk (traS i j q V.σ) (updR V.ρ V.nx V.σ) ((V.nx + 1) % 8) (kInc V.ct) V.LN V.f V.nb V.fb) [.ref a.aX, .int (nI i), .int (nI j), .int q] (.int (heatOf (vB V.σ) (hB V.σ) i q)) := by
  refine LX.ofWX (cc := cL_pour) (maxL := 5) (ret := (some .int)) (hh := [(0, 7, 8, 20), (0, 7, 12, 22), (0, 7, 17, 33), (0, 7, 22, 24)]) (by decide) (big_at 12 17 rfl) (Nat.le_of_ble_eq_true rfl) ?_
  intro p e s m below meth cq u S9 hr hlocks htab hPQ hD hS hA ls hl
  obtain ⟨hx, hb, hml, hown, hts⟩ := id S9
  have hLF := LF.mk hPQ
  have hP := hPQ.1.1
  have hl : lv_has ls 5 [(0, .ref a.aX), (1, .int (nI i)), (2, .int (nI j)), (3, .int q)] := hl
  refine lv_aload_n hx hb dL_pour_0 rfl (lv_at hl 0 rfl) ?_
  refine lv_iload_n hx hb dL_pour_1 rfl (lv_at hl 1 rfl) ?_
  refine lv_iload_n hx hb dL_pour_2 rfl (lv_at hl 2 rfl) ?_
  refine lv_iload_n hx hb dL_pour_3 rfl (lv_at hl 3 rfl) ?_
  refine wr_V S9 hLF (o_pour l G cy kS vS a V u i j q ho hnx hct hi9 hj hF) (bigV 3 hts (big_at 12 18 rfl) (big_at 0 6 rfl) (big_at 12 21 rfl) (big_at 12 19 rfl) (big_at 12 20 rfl) rfl rfl (by decide +kernel) ⟨Nat.le_of_ble_eq_true rfl, Nat.le_of_ble_eq_true rfl⟩) hP hD hS hA rfl hl.1 rfl (Nat.le_of_ble_eq_true rfl) ⟨Nat.zero_le _, Nat.zero_le _⟩ dL_pour_4 (fun H locs hP hD hS => ?_)
  exact lx_iret (ex := []) hx hb hr hlocks ⟨rfl, rfl⟩ hP hS (Nat.zero_le _) (Nat.zero_le _) dL_pour_7
set_option maxRecDepth 100000 in
set_option maxHeartbeats 1000000 in
theorem q_pour_1 (l : Launch) (G : va_G) (cy : Nat → ClassId) (kS vS : Nat → Nat) (a : OA) (V : OV) (b : Int32) (t : Int32) (q : Int32) (hl9 : l.stackTraces = false) (ho : Ok V.σ) (hF : traF (nB V.σ) (vB V.σ) b t q = 1) : LQ l yL_pour 11 220 1 G cy kS vS a V V [.ref a.aX, .int b, .int t, .int q] (.int (-1)) := by
  refine LX.ofWX (cc := cL_pour) (maxL := 5) (ret := (some .int)) (hh := [(0, 7, 8, 20), (0, 7, 12, 22), (0, 7, 17, 33), (0, 7, 22, 24)]) (by decide) (big_at 12 17 rfl) (Nat.le_of_ble_eq_true rfl) ?_
  intro p e s m below meth cq u S9 hr hlocks htab hPQ hD hS hA ls hl
  obtain ⟨hx, hb, hml, hown, hts⟩ := id S9
  have hLF := LF.mk hPQ
  have hP := hPQ.1.1
  have hl : lv_has ls 5 [(0, .ref a.aX), (1, .int b), (2, .int t), (3, .int q)] := hl
  refine lv_aload_n hx hb dL_pour_0 rfl (lv_at hl 0 rfl) ?_
  refine lv_iload_n hx hb dL_pour_1 rfl (lv_at hl 1 rfl) ?_
  refine lv_iload_n hx hb dL_pour_2 rfl (lv_at hl 2 rfl) ?_
  refine lv_iload_n hx hb dL_pour_3 rfl (lv_at hl 3 rfl) ?_
  refine wr_T S9 hLF (o_pour_1 l G cy kS vS a V u b t q hl9 ho hF) (bigV 3 hts (big_at 12 18 rfl) (big_at 0 6 rfl) (big_at 12 21 rfl) (big_at 12 19 rfl) (big_at 12 20 rfl) rfl rfl (by decide +kernel) ⟨Nat.le_of_ble_eq_true rfl, Nat.le_of_ble_eq_true rfl⟩) hP hD hS hA rfl hl.1 rfl (Nat.le_of_ble_eq_true rfl) ⟨Nat.le_of_ble_eq_true rfl, Nat.le_of_ble_eq_true rfl⟩ dL_pour_4 (tableOf []) ⟨0, 7, 8, 20⟩ (tableOf [(0, 7, 12, 22), (0, 7, 17, 33), (0, 7, 22, 24)]) (htab.trans rfl) (by intro z hz; cases hz) (by decide) (by decide) (nwl hLF.2.2.1 (.classLink RL 20 xIOB) (by decide +kernel)) (hLF.2.2.1.2.2.1 (.castable xIOB xIOB) (by decide +kernel)) (fun H locs qx hP hD hS => ?_)
  refine lv_astore (lv' := [(4, .ref qx), (0, .ref a.aX), (1, .int b), (2, .int t), (3, .int q)]) hx hb dL_pour_8 hl (by decide) rfl (fun ls hl => ?_)
  refine lv_iconst (v := (-1)) hx hb dL_pour_10 (by decide) ?_
  exact lx_iret (ex := []) hx hb hr hlocks ⟨rfl, rfl⟩ hP hS (Nat.le_of_ble_eq_true rfl) (Nat.le_of_ble_eq_true rfl) dL_pour_11
set_option maxRecDepth 100000 in
set_option maxHeartbeats 1000000 in
theorem q_pour_2 (l : Launch) (G : va_G) (cy : Nat → ClassId) (kS vS : Nat → Nat) (a : OA) (V : OV) (b : Int32) (t : Int32) (q : Int32) (hl9 : l.stackTraces = false) (ho : Ok V.σ) (hF : traF (nB V.σ) (vB V.σ) b t q = 2) : LQ l yL_pour 11 220 1 G cy kS vS a V V [.ref a.aX, .int b, .int t, .int q] (.int (-2)) := by
  refine LX.ofWX (cc := cL_pour) (maxL := 5) (ret := (some .int)) (hh := [(0, 7, 8, 20), (0, 7, 12, 22), (0, 7, 17, 33), (0, 7, 22, 24)]) (by decide) (big_at 12 17 rfl) (Nat.le_of_ble_eq_true rfl) ?_
  intro p e s m below meth cq u S9 hr hlocks htab hPQ hD hS hA ls hl
  obtain ⟨hx, hb, hml, hown, hts⟩ := id S9
  have hLF := LF.mk hPQ
  have hP := hPQ.1.1
  have hl : lv_has ls 5 [(0, .ref a.aX), (1, .int b), (2, .int t), (3, .int q)] := hl
  refine lv_aload_n hx hb dL_pour_0 rfl (lv_at hl 0 rfl) ?_
  refine lv_iload_n hx hb dL_pour_1 rfl (lv_at hl 1 rfl) ?_
  refine lv_iload_n hx hb dL_pour_2 rfl (lv_at hl 2 rfl) ?_
  refine lv_iload_n hx hb dL_pour_3 rfl (lv_at hl 3 rfl) ?_
  refine wr_T S9 hLF (o_pour_2 l G cy kS vS a V u b t q hl9 ho hF) (bigV 3 hts (big_at 12 18 rfl) (big_at 0 6 rfl) (big_at 12 21 rfl) (big_at 12 19 rfl) (big_at 12 20 rfl) rfl rfl (by decide +kernel) ⟨Nat.le_of_ble_eq_true rfl, Nat.le_of_ble_eq_true rfl⟩) hP hD hS hA rfl hl.1 rfl (Nat.le_of_ble_eq_true rfl) ⟨Nat.le_of_ble_eq_true rfl, Nat.le_of_ble_eq_true rfl⟩ dL_pour_4 (tableOf [(0, 7, 8, 20)]) ⟨0, 7, 12, 22⟩ (tableOf [(0, 7, 17, 33), (0, 7, 22, 24)]) (htab.trans rfl) (by intro z hz; simp only [tableOf, List.map_cons, List.map_nil, List.mem_cons, List.not_mem_nil, or_false] at hz; rcases hz with rfl <;> first | exact Or.inr ⟨by decide, xIOB, nwl hLF.2.2.1 (.classLink RL 20 xIOB) (by decide +kernel), hLF.2.2.1.2.2.2.2 (xIAE, xIOB) (by decide +kernel)⟩) (by decide) (by decide) (nwl hLF.2.2.1 (.classLink RL 22 xIAE) (by decide +kernel)) (hLF.2.2.1.2.2.1 (.castable xIAE xIAE) (by decide +kernel)) (fun H locs qx hP hD hS => ?_)
  refine lv_astore (lv' := [(4, .ref qx), (0, .ref a.aX), (1, .int b), (2, .int t), (3, .int q)]) hx hb dL_pour_12 hl (by decide) rfl (fun ls hl => ?_)
  refine lv_bipush (v := (-2)) hx hb dL_pour_14 (by decide) ?_
  exact lx_iret (ex := []) hx hb hr hlocks ⟨rfl, rfl⟩ hP hS (Nat.le_of_ble_eq_true rfl) (Nat.le_of_ble_eq_true rfl) dL_pour_16
set_option maxRecDepth 100000 in
set_option maxHeartbeats 1000000 in
theorem q_pour_4 (l : Launch) (G : va_G) (cy : Nat → ClassId) (kS vS : Nat → Nat) (a : OA) (V : OV) (b : Int32) (t : Int32) (q : Int32) (hl9 : l.stackTraces = false) (ho : Ok V.σ) (hF : traF (nB V.σ) (vB V.σ) b t q = 4) : LQ l yL_pour 11 220 1 G cy kS vS a V V [.ref a.aX, .int b, .int t, .int q] (.int (-3)) := by
  refine LX.ofWX (cc := cL_pour) (maxL := 5) (ret := (some .int)) (hh := [(0, 7, 8, 20), (0, 7, 12, 22), (0, 7, 17, 33), (0, 7, 22, 24)]) (by decide) (big_at 12 17 rfl) (Nat.le_of_ble_eq_true rfl) ?_
  intro p e s m below meth cq u S9 hr hlocks htab hPQ hD hS hA ls hl
  obtain ⟨hx, hb, hml, hown, hts⟩ := id S9
  have hLF := LF.mk hPQ
  have hP := hPQ.1.1
  have hl : lv_has ls 5 [(0, .ref a.aX), (1, .int b), (2, .int t), (3, .int q)] := hl
  refine lv_aload_n hx hb dL_pour_0 rfl (lv_at hl 0 rfl) ?_
  refine lv_iload_n hx hb dL_pour_1 rfl (lv_at hl 1 rfl) ?_
  refine lv_iload_n hx hb dL_pour_2 rfl (lv_at hl 2 rfl) ?_
  refine lv_iload_n hx hb dL_pour_3 rfl (lv_at hl 3 rfl) ?_
  refine wr_T S9 hLF (o_pour_4 l G cy kS vS a V u b t q hl9 ho hF) (bigV 3 hts (big_at 12 18 rfl) (big_at 0 6 rfl) (big_at 12 21 rfl) (big_at 12 19 rfl) (big_at 12 20 rfl) rfl rfl (by decide +kernel) ⟨Nat.le_of_ble_eq_true rfl, Nat.le_of_ble_eq_true rfl⟩) hP hD hS hA rfl hl.1 rfl (Nat.le_of_ble_eq_true rfl) ⟨Nat.le_of_ble_eq_true rfl, Nat.le_of_ble_eq_true rfl⟩ dL_pour_4 (tableOf [(0, 7, 8, 20), (0, 7, 12, 22)]) ⟨0, 7, 17, 33⟩ (tableOf [(0, 7, 22, 24)]) (htab.trans rfl) (by intro z hz; simp only [tableOf, List.map_cons, List.map_nil, List.mem_cons, List.not_mem_nil, or_false] at hz; rcases hz with rfl | rfl <;> first | exact Or.inr ⟨by decide, xIOB, nwl hLF.2.2.1 (.classLink RL 20 xIOB) (by decide +kernel), hLF.2.2.1.2.2.2.2 (xNSE, xIOB) (by decide +kernel)⟩ | exact Or.inr ⟨by decide, xIAE, nwl hLF.2.2.1 (.classLink RL 22 xIAE) (by decide +kernel), hLF.2.2.1.2.2.2.2 (xNSE, xIAE) (by decide +kernel)⟩) (by decide) (by decide) (nwl hLF.2.2.1 (.classLink RL 33 xNSE) (by decide +kernel)) (hLF.2.2.1.2.2.1 (.castable xNSE xNSE) (by decide +kernel)) (fun H locs qx hP hD hS => ?_)
  refine lv_astore (lv' := [(4, .ref qx), (0, .ref a.aX), (1, .int b), (2, .int t), (3, .int q)]) hx hb dL_pour_17 hl (by decide) rfl (fun ls hl => ?_)
  refine lv_bipush (v := (-3)) hx hb dL_pour_19 (by decide) ?_
  exact lx_iret (ex := []) hx hb hr hlocks ⟨rfl, rfl⟩ hP hS (Nat.le_of_ble_eq_true rfl) (Nat.le_of_ble_eq_true rfl) dL_pour_21
set_option maxRecDepth 100000 in
set_option maxHeartbeats 1000000 in
theorem q_pour_5 (l : Launch) (G : va_G) (cy : Nat → ClassId) (kS vS : Nat → Nat) (a : OA) (V : OV) (b : Int32) (t : Int32) (q : Int32) (hl9 : l.stackTraces = false) (ho : Ok V.σ) (hF : traF (nB V.σ) (vB V.σ) b t q = 5) : LQ l yL_pour 11 220 1 G cy kS vS a V V [.ref a.aX, .int b, .int t, .int q] (.int (-4)) := by
  refine LX.ofWX (cc := cL_pour) (maxL := 5) (ret := (some .int)) (hh := [(0, 7, 8, 20), (0, 7, 12, 22), (0, 7, 17, 33), (0, 7, 22, 24)]) (by decide) (big_at 12 17 rfl) (Nat.le_of_ble_eq_true rfl) ?_
  intro p e s m below meth cq u S9 hr hlocks htab hPQ hD hS hA ls hl
  obtain ⟨hx, hb, hml, hown, hts⟩ := id S9
  have hLF := LF.mk hPQ
  have hP := hPQ.1.1
  have hl : lv_has ls 5 [(0, .ref a.aX), (1, .int b), (2, .int t), (3, .int q)] := hl
  refine lv_aload_n hx hb dL_pour_0 rfl (lv_at hl 0 rfl) ?_
  refine lv_iload_n hx hb dL_pour_1 rfl (lv_at hl 1 rfl) ?_
  refine lv_iload_n hx hb dL_pour_2 rfl (lv_at hl 2 rfl) ?_
  refine lv_iload_n hx hb dL_pour_3 rfl (lv_at hl 3 rfl) ?_
  refine wr_T S9 hLF (o_pour_5 l G cy kS vS a V u b t q hl9 ho hF) (bigV 3 hts (big_at 12 18 rfl) (big_at 0 6 rfl) (big_at 12 21 rfl) (big_at 12 19 rfl) (big_at 12 20 rfl) rfl rfl (by decide +kernel) ⟨Nat.le_of_ble_eq_true rfl, Nat.le_of_ble_eq_true rfl⟩) hP hD hS hA rfl hl.1 rfl (Nat.le_of_ble_eq_true rfl) ⟨Nat.le_of_ble_eq_true rfl, Nat.le_of_ble_eq_true rfl⟩ dL_pour_4 (tableOf [(0, 7, 8, 20), (0, 7, 12, 22), (0, 7, 17, 33)]) ⟨0, 7, 22, 24⟩ (tableOf []) (htab.trans rfl) (by intro z hz; simp only [tableOf, List.map_cons, List.map_nil, List.mem_cons, List.not_mem_nil, or_false] at hz; rcases hz with rfl | rfl | rfl <;> first | exact Or.inr ⟨by decide, xIOB, nwl hLF.2.2.1 (.classLink RL 20 xIOB) (by decide +kernel), hLF.2.2.1.2.2.2.2 (xUOE, xIOB) (by decide +kernel)⟩ | exact Or.inr ⟨by decide, xIAE, nwl hLF.2.2.1 (.classLink RL 22 xIAE) (by decide +kernel), hLF.2.2.1.2.2.2.2 (xUOE, xIAE) (by decide +kernel)⟩ | exact Or.inr ⟨by decide, xNSE, nwl hLF.2.2.1 (.classLink RL 33 xNSE) (by decide +kernel), hLF.2.2.1.2.2.2.2 (xUOE, xNSE) (by decide +kernel)⟩) (by decide) (by decide) (nwl hLF.2.2.1 (.classLink RL 24 xUOE) (by decide +kernel)) (hLF.2.2.1.2.2.1 (.castable xUOE xUOE) (by decide +kernel)) (fun H locs qx hP hD hS => ?_)
  refine lv_astore (lv' := [(4, .ref qx), (0, .ref a.aX), (1, .int b), (2, .int t), (3, .int q)]) hx hb dL_pour_22 hl (by decide) rfl (fun ls hl => ?_)
  refine lv_bipush (v := (-4)) hx hb dL_pour_24 (by decide) ?_
  exact lx_iret (ex := []) hx hb hr hlocks ⟨rfl, rfl⟩ hP hS (Nat.le_of_ble_eq_true rfl) (Nat.le_of_ble_eq_true rfl) dL_pour_26
set_option maxRecDepth 100000 in
set_option maxHeartbeats 1000000 in
theorem q_addDuck (l : Launch) (G : va_G) (cy : Nat → ClassId) (kS vS : Nat → Nat) (a : OA) (V : OV) (b : Int32) (t : Int32) (q : Int32) (ho : Ok V.σ) (hnx : V.nx < 8) (hct : V.ct ≤ 8) (h6 : nD V.σ < 6) (hd9 : dOK b) (hF : dukF (nB V.σ) (nD V.σ) b t q = 0) : LQ l yL_addDuck 11 220 1 G cy kS vS a V (OV.mk (dukS b t q V.σ) (updR V.ρ V.nx V.σ) ((V.nx + 1) % 8) (kInc V.ct) V.LN V.f V.nb V.fb) [.ref a.aX, .int b, .int t, .int q] (.int (nI (nD V.σ))) := by
  refine LX.ofWX (cc := cL_addDuck) (maxL := 5) (ret := (some .int)) (hh := [(0, 7, 8, 20), (0, 7, 12, 22), (0, 7, 17, 14)]) (by decide) (big_at 11 20 rfl) (Nat.le_of_ble_eq_true rfl) ?_
  intro p e s m below meth cq u S9 hr hlocks htab hPQ hD hS hA ls hl
  obtain ⟨hx, hb, hml, hown, hts⟩ := id S9
  have hLF := LF.mk hPQ
  have hP := hPQ.1.1
  have hl : lv_has ls 5 [(0, .ref a.aX), (1, .int b), (2, .int t), (3, .int q)] := hl
  refine lv_aload_n hx hb dL_addDuck_0 rfl (lv_at hl 0 rfl) ?_
  refine lv_iload_n hx hb dL_addDuck_1 rfl (lv_at hl 1 rfl) ?_
  refine lv_iload_n hx hb dL_addDuck_2 rfl (lv_at hl 2 rfl) ?_
  refine lv_iload_n hx hb dL_addDuck_3 rfl (lv_at hl 3 rfl) ?_
  refine wr_V S9 hLF (o_addDuck l G cy kS vS a V u b t q ho hnx hct h6 hd9 hF) (bigV 3 hts (big_at 11 21 rfl) (big_at 0 6 rfl) (big_at 12 0 rfl) (big_at 11 22 rfl) (big_at 11 23 rfl) rfl rfl (by decide +kernel) ⟨Nat.le_of_ble_eq_true rfl, Nat.le_of_ble_eq_true rfl⟩) hP hD hS hA rfl hl.1 rfl (Nat.le_of_ble_eq_true rfl) ⟨Nat.zero_le _, Nat.zero_le _⟩ dL_addDuck_4 (fun H locs hP hD hS => ?_)
  exact lx_iret (ex := []) hx hb hr hlocks ⟨rfl, rfl⟩ hP hS (Nat.zero_le _) (Nat.zero_le _) dL_addDuck_7
set_option maxRecDepth 100000 in
set_option maxHeartbeats 1000000 in
theorem q_addDuck_1 (l : Launch) (G : va_G) (cy : Nat → ClassId) (kS vS : Nat → Nat) (a : OA) (V : OV) (b : Int32) (t : Int32) (q : Int32) (hl9 : l.stackTraces = false) (ho : Ok V.σ) (hF : dukF (nB V.σ) (nD V.σ) b t q = 1) : LQ l yL_addDuck 11 220 1 G cy kS vS a V V [.ref a.aX, .int b, .int t, .int q] (.int (-1)) := by
  refine LX.ofWX (cc := cL_addDuck) (maxL := 5) (ret := (some .int)) (hh := [(0, 7, 8, 20), (0, 7, 12, 22), (0, 7, 17, 14)]) (by decide) (big_at 11 20 rfl) (Nat.le_of_ble_eq_true rfl) ?_
  intro p e s m below meth cq u S9 hr hlocks htab hPQ hD hS hA ls hl
  obtain ⟨hx, hb, hml, hown, hts⟩ := id S9
  have hLF := LF.mk hPQ
  have hP := hPQ.1.1
  have hl : lv_has ls 5 [(0, .ref a.aX), (1, .int b), (2, .int t), (3, .int q)] := hl
  refine lv_aload_n hx hb dL_addDuck_0 rfl (lv_at hl 0 rfl) ?_
  refine lv_iload_n hx hb dL_addDuck_1 rfl (lv_at hl 1 rfl) ?_
  refine lv_iload_n hx hb dL_addDuck_2 rfl (lv_at hl 2 rfl) ?_
  refine lv_iload_n hx hb dL_addDuck_3 rfl (lv_at hl 3 rfl) ?_
  refine wr_T S9 hLF (o_addDuck_1 l G cy kS vS a V u b t q hl9 ho hF) (bigV 3 hts (big_at 11 21 rfl) (big_at 0 6 rfl) (big_at 12 0 rfl) (big_at 11 22 rfl) (big_at 11 23 rfl) rfl rfl (by decide +kernel) ⟨Nat.le_of_ble_eq_true rfl, Nat.le_of_ble_eq_true rfl⟩) hP hD hS hA rfl hl.1 rfl (Nat.le_of_ble_eq_true rfl) ⟨Nat.le_of_ble_eq_true rfl, Nat.le_of_ble_eq_true rfl⟩ dL_addDuck_4 (tableOf []) ⟨0, 7, 8, 20⟩ (tableOf [(0, 7, 12, 22), (0, 7, 17, 14)]) (htab.trans rfl) (by intro z hz; cases hz) (by decide) (by decide) (nwl hLF.2.2.1 (.classLink RL 20 xIOB) (by decide +kernel)) (hLF.2.2.1.2.2.1 (.castable xIOB xIOB) (by decide +kernel)) (fun H locs qx hP hD hS => ?_)
  refine lv_astore (lv' := [(4, .ref qx), (0, .ref a.aX), (1, .int b), (2, .int t), (3, .int q)]) hx hb dL_addDuck_8 hl (by decide) rfl (fun ls hl => ?_)
  refine lv_iconst (v := (-1)) hx hb dL_addDuck_10 (by decide) ?_
  exact lx_iret (ex := []) hx hb hr hlocks ⟨rfl, rfl⟩ hP hS (Nat.le_of_ble_eq_true rfl) (Nat.le_of_ble_eq_true rfl) dL_addDuck_11
set_option maxRecDepth 100000 in
set_option maxHeartbeats 1000000 in
theorem q_addDuck_2 (l : Launch) (G : va_G) (cy : Nat → ClassId) (kS vS : Nat → Nat) (a : OA) (V : OV) (b : Int32) (t : Int32) (q : Int32) (hl9 : l.stackTraces = false) (ho : Ok V.σ) (hF : dukF (nB V.σ) (nD V.σ) b t q = 2) : LQ l yL_addDuck 11 220 1 G cy kS vS a V V [.ref a.aX, .int b, .int t, .int q] (.int (-2)) := by
  refine LX.ofWX (cc := cL_addDuck) (maxL := 5) (ret := (some .int)) (hh := [(0, 7, 8, 20), (0, 7, 12, 22), (0, 7, 17, 14)]) (by decide) (big_at 11 20 rfl) (Nat.le_of_ble_eq_true rfl) ?_
  intro p e s m below meth cq u S9 hr hlocks htab hPQ hD hS hA ls hl
  obtain ⟨hx, hb, hml, hown, hts⟩ := id S9
  have hLF := LF.mk hPQ
  have hP := hPQ.1.1
  have hl : lv_has ls 5 [(0, .ref a.aX), (1, .int b), (2, .int t), (3, .int q)] := hl
  refine lv_aload_n hx hb dL_addDuck_0 rfl (lv_at hl 0 rfl) ?_
  refine lv_iload_n hx hb dL_addDuck_1 rfl (lv_at hl 1 rfl) ?_
  refine lv_iload_n hx hb dL_addDuck_2 rfl (lv_at hl 2 rfl) ?_
  refine lv_iload_n hx hb dL_addDuck_3 rfl (lv_at hl 3 rfl) ?_
  refine wr_T S9 hLF (o_addDuck_2 l G cy kS vS a V u b t q hl9 ho hF) (bigV 3 hts (big_at 11 21 rfl) (big_at 0 6 rfl) (big_at 12 0 rfl) (big_at 11 22 rfl) (big_at 11 23 rfl) rfl rfl (by decide +kernel) ⟨Nat.le_of_ble_eq_true rfl, Nat.le_of_ble_eq_true rfl⟩) hP hD hS hA rfl hl.1 rfl (Nat.le_of_ble_eq_true rfl) ⟨Nat.le_of_ble_eq_true rfl, Nat.le_of_ble_eq_true rfl⟩ dL_addDuck_4 (tableOf [(0, 7, 8, 20)]) ⟨0, 7, 12, 22⟩ (tableOf [(0, 7, 17, 14)]) (htab.trans rfl) (by intro z hz; simp only [tableOf, List.map_cons, List.map_nil, List.mem_cons, List.not_mem_nil, or_false] at hz; rcases hz with rfl <;> first | exact Or.inr ⟨by decide, xIOB, nwl hLF.2.2.1 (.classLink RL 20 xIOB) (by decide +kernel), hLF.2.2.1.2.2.2.2 (xIAE, xIOB) (by decide +kernel)⟩) (by decide) (by decide) (nwl hLF.2.2.1 (.classLink RL 22 xIAE) (by decide +kernel)) (hLF.2.2.1.2.2.1 (.castable xIAE xIAE) (by decide +kernel)) (fun H locs qx hP hD hS => ?_)
  refine lv_astore (lv' := [(4, .ref qx), (0, .ref a.aX), (1, .int b), (2, .int t), (3, .int q)]) hx hb dL_addDuck_12 hl (by decide) rfl (fun ls hl => ?_)
  refine lv_bipush (v := (-2)) hx hb dL_addDuck_14 (by decide) ?_
  exact lx_iret (ex := []) hx hb hr hlocks ⟨rfl, rfl⟩ hP hS (Nat.le_of_ble_eq_true rfl) (Nat.le_of_ble_eq_true rfl) dL_addDuck_16
set_option maxRecDepth 100000 in
set_option maxHeartbeats 1000000 in
theorem q_addDuck_3 (l : Launch) (G : va_G) (cy : Nat → ClassId) (kS vS : Nat → Nat) (a : OA) (V : OV) (b : Int32) (t : Int32) (q : Int32) (hl9 : l.stackTraces = false) (ho : Ok V.σ) (hF : dukF (nB V.σ) (nD V.σ) b t q = 3) : LQ l yL_addDuck 11 220 1 G cy kS vS a V V [.ref a.aX, .int b, .int t, .int q] (.int (-3)) := by
  refine LX.ofWX (cc := cL_addDuck) (maxL := 5) (ret := (some .int)) (hh := [(0, 7, 8, 20), (0, 7, 12, 22), (0, 7, 17, 14)]) (by decide) (big_at 11 20 rfl) (Nat.le_of_ble_eq_true rfl) ?_
  intro p e s m below meth cq u S9 hr hlocks htab hPQ hD hS hA ls hl
  obtain ⟨hx, hb, hml, hown, hts⟩ := id S9
  have hLF := LF.mk hPQ
  have hP := hPQ.1.1
  have hl : lv_has ls 5 [(0, .ref a.aX), (1, .int b), (2, .int t), (3, .int q)] := hl
  refine lv_aload_n hx hb dL_addDuck_0 rfl (lv_at hl 0 rfl) ?_
  refine lv_iload_n hx hb dL_addDuck_1 rfl (lv_at hl 1 rfl) ?_
  refine lv_iload_n hx hb dL_addDuck_2 rfl (lv_at hl 2 rfl) ?_
  refine lv_iload_n hx hb dL_addDuck_3 rfl (lv_at hl 3 rfl) ?_
  refine wr_T S9 hLF (o_addDuck_3 l G cy kS vS a V u b t q hl9 ho hF) (bigV 3 hts (big_at 11 21 rfl) (big_at 0 6 rfl) (big_at 12 0 rfl) (big_at 11 22 rfl) (big_at 11 23 rfl) rfl rfl (by decide +kernel) ⟨Nat.le_of_ble_eq_true rfl, Nat.le_of_ble_eq_true rfl⟩) hP hD hS hA rfl hl.1 rfl (Nat.le_of_ble_eq_true rfl) ⟨Nat.le_of_ble_eq_true rfl, Nat.le_of_ble_eq_true rfl⟩ dL_addDuck_4 (tableOf [(0, 7, 8, 20), (0, 7, 12, 22)]) ⟨0, 7, 17, 14⟩ (tableOf []) (htab.trans rfl) (by intro z hz; simp only [tableOf, List.map_cons, List.map_nil, List.mem_cons, List.not_mem_nil, or_false] at hz; rcases hz with rfl | rfl <;> first | exact Or.inr ⟨by decide, xIOB, nwl hLF.2.2.1 (.classLink RL 20 xIOB) (by decide +kernel), hLF.2.2.1.2.2.2.2 (xISE, xIOB) (by decide +kernel)⟩ | exact Or.inr ⟨by decide, xIAE, nwl hLF.2.2.1 (.classLink RL 22 xIAE) (by decide +kernel), hLF.2.2.1.2.2.2.2 (xISE, xIAE) (by decide +kernel)⟩) (by decide) (by decide) (nwl hLF.2.2.1 (.classLink RL 14 xISE) (by decide +kernel)) (hLF.2.2.1.2.2.1 (.castable xISE xISE) (by decide +kernel)) (fun H locs qx hP hD hS => ?_)
  refine lv_astore (lv' := [(4, .ref qx), (0, .ref a.aX), (1, .int b), (2, .int t), (3, .int q)]) hx hb dL_addDuck_17 hl (by decide) rfl (fun ls hl => ?_)
  refine lv_bipush (v := (-3)) hx hb dL_addDuck_19 (by decide) ?_
  exact lx_iret (ex := []) hx hb hr hlocks ⟨rfl, rfl⟩ hP hS (Nat.le_of_ble_eq_true rfl) (Nat.le_of_ble_eq_true rfl) dL_addDuck_21
set_option maxRecDepth 100000 in
set_option maxHeartbeats 1000000 in
theorem q_join (l : Launch) (G : va_G) (cy : Nat → ClassId) (kS vS : Nat → Nat) (a : OA) (V : OV) (j : Nat) (ho : Ok V.σ) (hnx : V.nx < 8) (hct : V.ct ≤ 8) (hj : j < nB V.σ) (hF : admF (nB V.σ) (vB V.σ) (hB V.σ) (mB V.σ) (nI j) = 0) : LQ l yL_join 11 220 1 G cy kS vS a V (OV.mk (admS j V.σ) (updR V.ρ V.nx V.σ) ((V.nx + 1) % 8) (kInc V.ct) V.LN V.f V.nb V.fb) [.ref a.aX, .int (nI j)] (.int (cntM (mB (admS j V.σ)) (nB (admS j V.σ)))) := by
  refine LX.ofWX (cc := cL_join) (maxL := 3) (ret := (some .int)) (hh := [(0, 5, 6, 20), (0, 5, 9, 14), (0, 5, 13, 24)]) (by decide) (big_at 10 19 rfl) (Nat.le_of_ble_eq_true rfl) ?_
  intro p e s m below meth cq u S9 hr hlocks htab hPQ hD hS hA ls hl
  obtain ⟨hx, hb, hml, hown, hts⟩ := id S9
  have hLF := LF.mk hPQ
  have hP := hPQ.1.1
  have hl : lv_has ls 3 [(0, .ref a.aX), (1, .int (nI j))] := hl
  refine lv_aload_n hx hb dL_join_0 rfl (lv_at hl 0 rfl) ?_
  refine lv_iload_n hx hb dL_join_1 rfl (lv_at hl 1 rfl) ?_
  refine wr_V S9 hLF (o_join l G cy kS vS a V u j ho hnx hct hj hF) (bigV 1 hts (big_at 10 20 rfl) (big_at 0 6 rfl) (big_at 10 23 rfl) (big_at 10 21 rfl) (big_at 10 22 rfl) rfl rfl (by decide +kernel) ⟨Nat.le_of_ble_eq_true rfl, Nat.le_of_ble_eq_true rfl⟩) hP hD hS hA rfl hl.1 rfl (Nat.le_of_ble_eq_true rfl) ⟨Nat.zero_le _, Nat.zero_le _⟩ dL_join_2 (fun H locs hP hD hS => ?_)
  exact lx_iret (ex := []) hx hb hr hlocks ⟨rfl, rfl⟩ hP hS (Nat.zero_le _) (Nat.zero_le _) dL_join_5
set_option maxRecDepth 100000 in
set_option maxHeartbeats 1000000 in
theorem q_join_1 (l : Launch) (G : va_G) (cy : Nat → ClassId) (kS vS : Nat → Nat) (a : OA) (V : OV) (b : Int32) (hl9 : l.stackTraces = false) (ho : Ok V.σ) (hF : admF (nB V.σ) (vB V.σ) (hB V.σ) (mB V.σ) b = 1) : LQ l yL_join 11 220 1 G cy kS vS a V V [.ref a.aX, .int b] (.int (-1)) := by
  refine LX.ofWX (cc := cL_join) (maxL := 3) (ret := (some .int)) (hh := [(0, 5, 6, 20), (0, 5, 9, 14), (0, 5, 13, 24)]) (by decide) (big_at 10 19 rfl) (Nat.le_of_ble_eq_true rfl) ?_
  intro p e s m below meth cq u S9 hr hlocks htab hPQ hD hS hA ls hl
  obtain ⟨hx, hb, hml, hown, hts⟩ := id S9
  have hLF := LF.mk hPQ
  have hP := hPQ.1.1
  have hl : lv_has ls 3 [(0, .ref a.aX), (1, .int b)] := hl
  refine lv_aload_n hx hb dL_join_0 rfl (lv_at hl 0 rfl) ?_
  refine lv_iload_n hx hb dL_join_1 rfl (lv_at hl 1 rfl) ?_
  refine wr_T S9 hLF (o_join_1 l G cy kS vS a V u b hl9 ho hF) (bigV 1 hts (big_at 10 20 rfl) (big_at 0 6 rfl) (big_at 10 23 rfl) (big_at 10 21 rfl) (big_at 10 22 rfl) rfl rfl (by decide +kernel) ⟨Nat.le_of_ble_eq_true rfl, Nat.le_of_ble_eq_true rfl⟩) hP hD hS hA rfl hl.1 rfl (Nat.le_of_ble_eq_true rfl) ⟨Nat.le_of_ble_eq_true rfl, Nat.le_of_ble_eq_true rfl⟩ dL_join_2 (tableOf []) ⟨0, 5, 6, 20⟩ (tableOf [(0, 5, 9, 14), (0, 5, 13, 24)]) (htab.trans rfl) (by intro z hz; cases hz) (by decide) (by decide) (nwl hLF.2.2.1 (.classLink RL 20 xIOB) (by decide +kernel)) (hLF.2.2.1.2.2.1 (.castable xIOB xIOB) (by decide +kernel)) (fun H locs qx hP hD hS => ?_)
  refine lv_astore_n (lv' := [(2, .ref qx), (0, .ref a.aX), (1, .int b)]) hx hb dL_join_6 rfl hl (by decide) rfl (fun ls hl => ?_)
  refine lv_iconst (v := (-1)) hx hb dL_join_7 (by decide) ?_
  exact lx_iret (ex := []) hx hb hr hlocks ⟨rfl, rfl⟩ hP hS (Nat.le_of_ble_eq_true rfl) (Nat.le_of_ble_eq_true rfl) dL_join_8
set_option maxRecDepth 100000 in
set_option maxHeartbeats 1000000 in
theorem q_join_3 (l : Launch) (G : va_G) (cy : Nat → ClassId) (kS vS : Nat → Nat) (a : OA) (V : OV) (b : Int32) (hl9 : l.stackTraces = false) (ho : Ok V.σ) (hF : admF (nB V.σ) (vB V.σ) (hB V.σ) (mB V.σ) b = 3) : LQ l yL_join 11 220 1 G cy kS vS a V V [.ref a.aX, .int b] (.int (-2)) := by
  refine LX.ofWX (cc := cL_join) (maxL := 3) (ret := (some .int)) (hh := [(0, 5, 6, 20), (0, 5, 9, 14), (0, 5, 13, 24)]) (by decide) (big_at 10 19 rfl) (Nat.le_of_ble_eq_true rfl) ?_
  intro p e s m below meth cq u S9 hr hlocks htab hPQ hD hS hA ls hl
  obtain ⟨hx, hb, hml, hown, hts⟩ := id S9
  have hLF := LF.mk hPQ
  have hP := hPQ.1.1
  have hl : lv_has ls 3 [(0, .ref a.aX), (1, .int b)] := hl
  refine lv_aload_n hx hb dL_join_0 rfl (lv_at hl 0 rfl) ?_
  refine lv_iload_n hx hb dL_join_1 rfl (lv_at hl 1 rfl) ?_
  refine wr_T S9 hLF (o_join_3 l G cy kS vS a V u b hl9 ho hF) (bigV 1 hts (big_at 10 20 rfl) (big_at 0 6 rfl) (big_at 10 23 rfl) (big_at 10 21 rfl) (big_at 10 22 rfl) rfl rfl (by decide +kernel) ⟨Nat.le_of_ble_eq_true rfl, Nat.le_of_ble_eq_true rfl⟩) hP hD hS hA rfl hl.1 rfl (Nat.le_of_ble_eq_true rfl) ⟨Nat.le_of_ble_eq_true rfl, Nat.le_of_ble_eq_true rfl⟩ dL_join_2 (tableOf [(0, 5, 6, 20)]) ⟨0, 5, 9, 14⟩ (tableOf [(0, 5, 13, 24)]) (htab.trans rfl) (by intro z hz; simp only [tableOf, List.map_cons, List.map_nil, List.mem_cons, List.not_mem_nil, or_false] at hz; rcases hz with rfl <;> first | exact Or.inr ⟨by decide, xIOB, nwl hLF.2.2.1 (.classLink RL 20 xIOB) (by decide +kernel), hLF.2.2.1.2.2.2.2 (xISE, xIOB) (by decide +kernel)⟩) (by decide) (by decide) (nwl hLF.2.2.1 (.classLink RL 14 xISE) (by decide +kernel)) (hLF.2.2.1.2.2.1 (.castable xISE xISE) (by decide +kernel)) (fun H locs qx hP hD hS => ?_)
  refine lv_astore_n (lv' := [(2, .ref qx), (0, .ref a.aX), (1, .int b)]) hx hb dL_join_9 rfl hl (by decide) rfl (fun ls hl => ?_)
  refine lv_bipush (v := (-2)) hx hb dL_join_10 (by decide) ?_
  exact lx_iret (ex := []) hx hb hr hlocks ⟨rfl, rfl⟩ hP hS (Nat.le_of_ble_eq_true rfl) (Nat.le_of_ble_eq_true rfl) dL_join_12
set_option maxRecDepth 100000 in
set_option maxHeartbeats 1000000 in
theorem q_join_5 (l : Launch) (G : va_G) (cy : Nat → ClassId) (kS vS : Nat → Nat) (a : OA) (V : OV) (b : Int32) (hl9 : l.stackTraces = false) (ho : Ok V.σ) (hF : admF (nB V.σ) (vB V.σ) (hB V.σ) (mB V.σ) b = 5) : LQ l yL_join 11 220 1 G cy kS vS a V V [.ref a.aX, .int b] (.int (-3)) := by
  refine LX.ofWX (cc := cL_join) (maxL := 3) (ret := (some .int)) (hh := [(0, 5, 6, 20), (0, 5, 9, 14), (0, 5, 13, 24)]) (by decide) (big_at 10 19 rfl) (Nat.le_of_ble_eq_true rfl) ?_
  intro p e s m below meth cq u S9 hr hlocks htab hPQ hD hS hA ls hl
  obtain ⟨hx, hb, hml, hown, hts⟩ := id S9
  have hLF := LF.mk hPQ
  have hP := hPQ.1.1
  have hl : lv_has ls 3 [(0, .ref a.aX), (1, .int b)] := hl
  refine lv_aload_n hx hb dL_join_0 rfl (lv_at hl 0 rfl) ?_
  refine lv_iload_n hx hb dL_join_1 rfl (lv_at hl 1 rfl) ?_
  refine wr_T S9 hLF (o_join_5 l G cy kS vS a V u b hl9 ho hF) (bigV 1 hts (big_at 10 20 rfl) (big_at 0 6 rfl) (big_at 10 23 rfl) (big_at 10 21 rfl) (big_at 10 22 rfl) rfl rfl (by decide +kernel) ⟨Nat.le_of_ble_eq_true rfl, Nat.le_of_ble_eq_true rfl⟩) hP hD hS hA rfl hl.1 rfl (Nat.le_of_ble_eq_true rfl) ⟨Nat.le_of_ble_eq_true rfl, Nat.le_of_ble_eq_true rfl⟩ dL_join_2 (tableOf [(0, 5, 6, 20), (0, 5, 9, 14)]) ⟨0, 5, 13, 24⟩ (tableOf []) (htab.trans rfl) (by intro z hz; simp only [tableOf, List.map_cons, List.map_nil, List.mem_cons, List.not_mem_nil, or_false] at hz; rcases hz with rfl | rfl <;> first | exact Or.inr ⟨by decide, xIOB, nwl hLF.2.2.1 (.classLink RL 20 xIOB) (by decide +kernel), hLF.2.2.1.2.2.2.2 (xUOE, xIOB) (by decide +kernel)⟩ | exact Or.inr ⟨by decide, xISE, nwl hLF.2.2.1 (.classLink RL 14 xISE) (by decide +kernel), hLF.2.2.1.2.2.2.2 (xUOE, xISE) (by decide +kernel)⟩) (by decide) (by decide) (nwl hLF.2.2.1 (.classLink RL 24 xUOE) (by decide +kernel)) (hLF.2.2.1.2.2.1 (.castable xUOE xUOE) (by decide +kernel)) (fun H locs qx hP hD hS => ?_)
  refine lv_astore_n (lv' := [(2, .ref qx), (0, .ref a.aX), (1, .int b)]) hx hb dL_join_13 rfl hl (by decide) rfl (fun ls hl => ?_)
  refine lv_bipush (v := (-3)) hx hb dL_join_14 (by decide) ?_
  exact lx_iret (ex := []) hx hb hr hlocks ⟨rfl, rfl⟩ hP hS (Nat.le_of_ble_eq_true rfl) (Nat.le_of_ble_eq_true rfl) dL_join_16
set_option maxRecDepth 100000 in
set_option maxHeartbeats 1000000 in
theorem q_leave (l : Launch) (G : va_G) (cy : Nat → ClassId) (kS vS : Nat → Nat) (a : OA) (V : OV) (j : Nat) (ho : Ok V.σ) (hnx : V.nx < 8) (hct : V.ct ≤ 8) (hj : j < nB V.σ) (hF : disF (nB V.σ) (mB V.σ) (nI j) = 0) : LQ l yL_leave 11 220 1 G cy kS vS a V (OV.mk (disS j V.σ) (updR V.ρ V.nx V.σ) ((V.nx + 1) % 8) (kInc V.ct) V.LN V.f V.nb V.fb) [.ref a.aX, .int (nI j)] (.int (cntM (mB (disS j V.σ)) (nB (disS j V.σ)))) := by
  refine LX.ofWX (cc := cL_leave) (maxL := 3) (ret := (some .int)) (hh := [(0, 5, 6, 20), (0, 5, 9, 14)]) (by decide) (big_at 47 5 rfl) (Nat.le_of_ble_eq_true rfl) ?_
  intro p e s m below meth cq u S9 hr hlocks htab hPQ hD hS hA ls hl
  obtain ⟨hx, hb, hml, hown, hts⟩ := id S9
  have hLF := LF.mk hPQ
  have hP := hPQ.1.1
  have hl : lv_has ls 3 [(0, .ref a.aX), (1, .int (nI j))] := hl
  refine lv_aload_n hx hb dL_leave_0 rfl (lv_at hl 0 rfl) ?_
  refine lv_iload_n hx hb dL_leave_1 rfl (lv_at hl 1 rfl) ?_
  refine wr_V S9 hLF (o_leave l G cy kS vS a V u j ho hnx hct hj hF) (bigV 1 hts (big_at 47 6 rfl) (big_at 0 6 rfl) (big_at 47 9 rfl) (big_at 47 7 rfl) (big_at 47 8 rfl) rfl rfl (by decide +kernel) ⟨Nat.le_of_ble_eq_true rfl, Nat.le_of_ble_eq_true rfl⟩) hP hD hS hA rfl hl.1 rfl (Nat.le_of_ble_eq_true rfl) ⟨Nat.zero_le _, Nat.zero_le _⟩ dL_leave_2 (fun H locs hP hD hS => ?_)
  exact lx_iret (ex := []) hx hb hr hlocks ⟨rfl, rfl⟩ hP hS (Nat.zero_le _) (Nat.zero_le _) dL_leave_5
set_option maxRecDepth 100000 in
set_option maxHeartbeats 1000000 in
theorem q_leave_1 (l : Launch) (G : va_G) (cy : Nat → ClassId) (kS vS : Nat → Nat) (a : OA) (V : OV) (b : Int32) (hl9 : l.stackTraces = false) (ho : Ok V.σ) (hF : disF (nB V.σ) (mB V.σ) b = 1) : LQ l yL_leave 11 220 1 G cy kS vS a V V [.ref a.aX, .int b] (.int (-1)) := by
  refine LX.ofWX (cc := cL_leave) (maxL := 3) (ret := (some .int)) (hh := [(0, 5, 6, 20), (0, 5, 9, 14)]) (by decide) (big_at 47 5 rfl) (Nat.le_of_ble_eq_true rfl) ?_
  intro p e s m below meth cq u S9 hr hlocks htab hPQ hD hS hA ls hl
  obtain ⟨hx, hb, hml, hown, hts⟩ := id S9
  have hLF := LF.mk hPQ
  have hP := hPQ.1.1
  have hl : lv_has ls 3 [(0, .ref a.aX), (1, .int b)] := hl
  refine lv_aload_n hx hb dL_leave_0 rfl (lv_at hl 0 rfl) ?_
  refine lv_iload_n hx hb dL_leave_1 rfl (lv_at hl 1 rfl) ?_
  refine wr_T S9 hLF (o_leave_1 l G cy kS vS a V u b hl9 ho hF) (bigV 1 hts (big_at 47 6 rfl) (big_at 0 6 rfl) (big_at 47 9 rfl) (big_at 47 7 rfl) (big_at 47 8 rfl) rfl rfl (by decide +kernel) ⟨Nat.le_of_ble_eq_true rfl, Nat.le_of_ble_eq_true rfl⟩) hP hD hS hA rfl hl.1 rfl (Nat.le_of_ble_eq_true rfl) ⟨Nat.le_of_ble_eq_true rfl, Nat.le_of_ble_eq_true rfl⟩ dL_leave_2 (tableOf []) ⟨0, 5, 6, 20⟩ (tableOf [(0, 5, 9, 14)]) (htab.trans rfl) (by intro z hz; cases hz) (by decide) (by decide) (nwl hLF.2.2.1 (.classLink RL 20 xIOB) (by decide +kernel)) (hLF.2.2.1.2.2.1 (.castable xIOB xIOB) (by decide +kernel)) (fun H locs qx hP hD hS => ?_)
  refine lv_astore_n (lv' := [(2, .ref qx), (0, .ref a.aX), (1, .int b)]) hx hb dL_leave_6 rfl hl (by decide) rfl (fun ls hl => ?_)
  refine lv_iconst (v := (-1)) hx hb dL_leave_7 (by decide) ?_
  exact lx_iret (ex := []) hx hb hr hlocks ⟨rfl, rfl⟩ hP hS (Nat.le_of_ble_eq_true rfl) (Nat.le_of_ble_eq_true rfl) dL_leave_8
set_option maxRecDepth 100000 in
set_option maxHeartbeats 1000000 in
theorem q_leave_3 (l : Launch) (G : va_G) (cy : Nat → ClassId) (kS vS : Nat → Nat) (a : OA) (V : OV) (b : Int32) (hl9 : l.stackTraces = false) (ho : Ok V.σ) (hF : disF (nB V.σ) (mB V.σ) b = 3) : LQ l yL_leave 11 220 1 G cy kS vS a V V [.ref a.aX, .int b] (.int (-2)) := by
  refine LX.ofWX (cc := cL_leave) (maxL := 3) (ret := (some .int)) (hh := [(0, 5, 6, 20), (0, 5, 9, 14)]) (by decide) (big_at 47 5 rfl) (Nat.le_of_ble_eq_true rfl) ?_
  intro p e s m below meth cq u S9 hr hlocks htab hPQ hD hS hA ls hl
  obtain ⟨hx, hb, hml, hown, hts⟩ := id S9
  have hLF := LF.mk hPQ
  have hP := hPQ.1.1
  have hl : lv_has ls 3 [(0, .ref a.aX), (1, .int b)] := hl
  refine lv_aload_n hx hb dL_leave_0 rfl (lv_at hl 0 rfl) ?_
  refine lv_iload_n hx hb dL_leave_1 rfl (lv_at hl 1 rfl) ?_
  refine wr_T S9 hLF (o_leave_3 l G cy kS vS a V u b hl9 ho hF) (bigV 1 hts (big_at 47 6 rfl) (big_at 0 6 rfl) (big_at 47 9 rfl) (big_at 47 7 rfl) (big_at 47 8 rfl) rfl rfl (by decide +kernel) ⟨Nat.le_of_ble_eq_true rfl, Nat.le_of_ble_eq_true rfl⟩) hP hD hS hA rfl hl.1 rfl (Nat.le_of_ble_eq_true rfl) ⟨Nat.le_of_ble_eq_true rfl, Nat.le_of_ble_eq_true rfl⟩ dL_leave_2 (tableOf [(0, 5, 6, 20)]) ⟨0, 5, 9, 14⟩ (tableOf []) (htab.trans rfl) (by intro z hz; simp only [tableOf, List.map_cons, List.map_nil, List.mem_cons, List.not_mem_nil, or_false] at hz; rcases hz with rfl <;> first | exact Or.inr ⟨by decide, xIOB, nwl hLF.2.2.1 (.classLink RL 20 xIOB) (by decide +kernel), hLF.2.2.1.2.2.2.2 (xISE, xIOB) (by decide +kernel)⟩) (by decide) (by decide) (nwl hLF.2.2.1 (.classLink RL 14 xISE) (by decide +kernel)) (hLF.2.2.1.2.2.1 (.castable xISE xISE) (by decide +kernel)) (fun H locs qx hP hD hS => ?_)
  refine lv_astore_n (lv' := [(2, .ref qx), (0, .ref a.aX), (1, .int b)]) hx hb dL_leave_9 rfl hl (by decide) rfl (fun ls hl => ?_)
  refine lv_bipush (v := (-2)) hx hb dL_leave_10 (by decide) ?_
  exact lx_iret (ex := []) hx hb hr hlocks ⟨rfl, rfl⟩ hP hS (Nat.le_of_ble_eq_true rfl) (Nat.le_of_ble_eq_true rfl) dL_leave_12
set_option maxRecDepth 100000 in
set_option maxHeartbeats 1000000 in
theorem q_advance (l : Launch) (G : va_G) (cy : Nat → ClassId) (kS vS : Nat → Nat) (a : OA) (V : OV) (n : Nat) (ho : Ok V.σ) (hnx : V.nx < 8) (hct : V.ct ≤ 8) (hn : n < 1000) (hF : tikF (nI n) = 0) : LQ l yL_advance 11 220 1 G cy kS vS a V (OV.mk (tickN V.σ n) (updR V.ρ V.nx V.σ) ((V.nx + 1) % 8) (kInc V.ct) V.LN V.f V.nb V.fb) [.ref a.aX, .int (nI n)] (.int (dT (tickN V.σ n) - dT V.σ)) := by
  refine LX.ofWX (cc := cL_advance) (maxL := 3) (ret := (some .int)) (hh := [(0, 5, 6, 22)]) (by decide) (big_at 13 13 rfl) (Nat.le_of_ble_eq_true rfl) ?_
  intro p e s m below meth cq u S9 hr hlocks htab hPQ hD hS hA ls hl
  obtain ⟨hx, hb, hml, hown, hts⟩ := id S9
  have hLF := LF.mk hPQ
  have hP := hPQ.1.1
  have hl : lv_has ls 3 [(0, .ref a.aX), (1, .int (nI n))] := hl
  refine lv_aload_n hx hb dL_advance_0 rfl (lv_at hl 0 rfl) ?_
  refine lv_iload_n hx hb dL_advance_1 rfl (lv_at hl 1 rfl) ?_
  refine wr_V S9 hLF (o_advance l G cy kS vS a V u n ho hnx hct hn hF) (bigV 1 hts (big_at 13 15 rfl) (big_at 0 6 rfl) (big_at 13 18 rfl) (big_at 13 16 rfl) (big_at 13 17 rfl) rfl rfl (by decide +kernel) ⟨Nat.le_of_ble_eq_true rfl, Nat.le_of_ble_eq_true rfl⟩) hP hD hS hA rfl hl.1 rfl (Nat.le_of_ble_eq_true rfl) ⟨Nat.zero_le _, Nat.zero_le _⟩ dL_advance_2 (fun H locs hP hD hS => ?_)
  exact lx_iret (ex := []) hx hb hr hlocks ⟨rfl, rfl⟩ hP hS (Nat.zero_le _) (Nat.zero_le _) dL_advance_5
set_option maxRecDepth 100000 in
set_option maxHeartbeats 1000000 in
theorem q_advance_2 (l : Launch) (G : va_G) (cy : Nat → ClassId) (kS vS : Nat → Nat) (a : OA) (V : OV) (n : Int32) (hl9 : l.stackTraces = false) (ho : Ok V.σ) (hF : tikF n = 2) : LQ l yL_advance 11 220 1 G cy kS vS a V V [.ref a.aX, .int n] (.int (-1)) := by
  refine LX.ofWX (cc := cL_advance) (maxL := 3) (ret := (some .int)) (hh := [(0, 5, 6, 22)]) (by decide) (big_at 13 13 rfl) (Nat.le_of_ble_eq_true rfl) ?_
  intro p e s m below meth cq u S9 hr hlocks htab hPQ hD hS hA ls hl
  obtain ⟨hx, hb, hml, hown, hts⟩ := id S9
  have hLF := LF.mk hPQ
  have hP := hPQ.1.1
  have hl : lv_has ls 3 [(0, .ref a.aX), (1, .int n)] := hl
  refine lv_aload_n hx hb dL_advance_0 rfl (lv_at hl 0 rfl) ?_
  refine lv_iload_n hx hb dL_advance_1 rfl (lv_at hl 1 rfl) ?_
  refine wr_T S9 hLF (o_advance_2 l G cy kS vS a V u n hl9 ho hF) (bigV 1 hts (big_at 13 15 rfl) (big_at 0 6 rfl) (big_at 13 18 rfl) (big_at 13 16 rfl) (big_at 13 17 rfl) rfl rfl (by decide +kernel) ⟨Nat.le_of_ble_eq_true rfl, Nat.le_of_ble_eq_true rfl⟩) hP hD hS hA rfl hl.1 rfl (Nat.le_of_ble_eq_true rfl) ⟨Nat.le_of_ble_eq_true rfl, Nat.le_of_ble_eq_true rfl⟩ dL_advance_2 (tableOf []) ⟨0, 5, 6, 22⟩ (tableOf []) (htab.trans rfl) (by intro z hz; cases hz) (by decide) (by decide) (nwl hLF.2.2.1 (.classLink RL 22 xIAE) (by decide +kernel)) (hLF.2.2.1.2.2.1 (.castable xIAE xIAE) (by decide +kernel)) (fun H locs qx hP hD hS => ?_)
  refine lv_astore_n (lv' := [(2, .ref qx), (0, .ref a.aX), (1, .int n)]) hx hb dL_advance_6 rfl hl (by decide) rfl (fun ls hl => ?_)
  refine lv_iconst (v := (-1)) hx hb dL_advance_7 (by decide) ?_
  exact lx_iret (ex := []) hx hb hr hlocks ⟨rfl, rfl⟩ hP hS (Nat.le_of_ble_eq_true rfl) (Nat.le_of_ble_eq_true rfl) dL_advance_8
set_option maxRecDepth 100000 in
set_option maxHeartbeats 1000000 in
theorem q_volume (l : Launch) (G : va_G) (cy : Nat → ClassId) (kS vS : Nat → Nat) (a : OA) (V : OV) (j : Nat) (ho : Ok V.σ) (hj : j < nB V.σ) : LQ l yL_volume 11 220 1 G cy kS vS a V V [.ref a.aX, .int (nI j)] (.int (vB V.σ j)) := by
  refine LX.ofWX (cc := cL_volume) (maxL := 3) (ret := (some .int)) (hh := [(0, 5, 6, 20)]) (by decide) (big_at 21 12 rfl) (Nat.le_of_ble_eq_true rfl) ?_
  intro p e s m below meth cq u S9 hr hlocks htab hPQ hD hS hA ls hl
  obtain ⟨hx, hb, hml, hown, hts⟩ := id S9
  have hLF := LF.mk hPQ
  have hP := hPQ.1.1
  have hl : lv_has ls 3 [(0, .ref a.aX), (1, .int (nI j))] := hl
  refine lv_aload_n hx hb dL_volume_0 rfl (lv_at hl 0 rfl) ?_
  refine lv_iload_n hx hb dL_volume_1 rfl (lv_at hl 1 rfl) ?_
  refine wr_V S9 hLF (o_volume l G cy kS vS a V u j ho hj) (bigV 1 hts (big_at 16 17 rfl) (big_at 0 6 rfl) (big_at 16 20 rfl) (big_at 16 18 rfl) (big_at 16 19 rfl) rfl rfl (by decide +kernel) ⟨Nat.le_of_ble_eq_true rfl, Nat.le_of_ble_eq_true rfl⟩) hP hD hS hA rfl hl.1 rfl (Nat.le_of_ble_eq_true rfl) ⟨Nat.zero_le _, Nat.zero_le _⟩ dL_volume_2 (fun H locs hP hD hS => ?_)
  exact lx_iret (ex := []) hx hb hr hlocks ⟨rfl, rfl⟩ hP hS (Nat.zero_le _) (Nat.zero_le _) dL_volume_5
set_option maxRecDepth 100000 in
set_option maxHeartbeats 1000000 in
theorem q_volume_1 (l : Launch) (G : va_G) (cy : Nat → ClassId) (kS vS : Nat → Nat) (a : OA) (V : OV) (b : Int32) (hl9 : l.stackTraces = false) (ho : Ok V.σ) (hF : ¬ inI b (nI (nB V.σ)) = true) : LQ l yL_volume 11 220 1 G cy kS vS a V V [.ref a.aX, .int b] (.int (-11)) := by
  refine LX.ofWX (cc := cL_volume) (maxL := 3) (ret := (some .int)) (hh := [(0, 5, 6, 20)]) (by decide) (big_at 21 12 rfl) (Nat.le_of_ble_eq_true rfl) ?_
  intro p e s m below meth cq u S9 hr hlocks htab hPQ hD hS hA ls hl
  obtain ⟨hx, hb, hml, hown, hts⟩ := id S9
  have hLF := LF.mk hPQ
  have hP := hPQ.1.1
  have hl : lv_has ls 3 [(0, .ref a.aX), (1, .int b)] := hl
  refine lv_aload_n hx hb dL_volume_0 rfl (lv_at hl 0 rfl) ?_
  refine lv_iload_n hx hb dL_volume_1 rfl (lv_at hl 1 rfl) ?_
  refine wr_T S9 hLF (o_volume1 l G cy kS vS a V u b hl9 ho hF) (bigV 1 hts (big_at 16 17 rfl) (big_at 0 6 rfl) (big_at 16 20 rfl) (big_at 16 18 rfl) (big_at 16 19 rfl) rfl rfl (by decide +kernel) ⟨Nat.le_of_ble_eq_true rfl, Nat.le_of_ble_eq_true rfl⟩) hP hD hS hA rfl hl.1 rfl (Nat.le_of_ble_eq_true rfl) ⟨Nat.le_of_ble_eq_true rfl, Nat.le_of_ble_eq_true rfl⟩ dL_volume_2 (tableOf []) ⟨0, 5, 6, 20⟩ (tableOf []) (htab.trans rfl) (by intro z hz; cases hz) (by decide) (by decide) (nwl hLF.2.2.1 (.classLink RL 20 xIOB) (by decide +kernel)) (hLF.2.2.1.2.2.1 (.castable xIOB xIOB) (by decide +kernel)) (fun H locs qx hP hD hS => ?_)
  refine lv_astore_n (lv' := [(2, .ref qx), (0, .ref a.aX), (1, .int b)]) hx hb dL_volume_6 rfl hl (by decide) rfl (fun ls hl => ?_)
  refine lv_bipush (v := (-11)) hx hb dL_volume_7 (by decide) ?_
  exact lx_iret (ex := []) hx hb hr hlocks ⟨rfl, rfl⟩ hP hS (Nat.le_of_ble_eq_true rfl) (Nat.le_of_ble_eq_true rfl) dL_volume_9
set_option maxRecDepth 100000 in
set_option maxHeartbeats 1000000 in
theorem q_heat (l : Launch) (G : va_G) (cy : Nat → ClassId) (kS vS : Nat → Nat) (a : OA) (V : OV) (j : Nat) (ho : Ok V.σ) (hj : j < nB V.σ) : LQ l yL_heat 11 220 1 G cy kS vS a V V [.ref a.aX, .int (nI j)] (.int (hB V.σ j)) := by
  refine LX.ofWX (cc := cL_heat) (maxL := 3) (ret := (some .int)) (hh := [(0, 5, 6, 20)]) (by decide) (big_at 21 15 rfl) (Nat.le_of_ble_eq_true rfl) ?_
  intro p e s m below meth cq u S9 hr hlocks htab hPQ hD hS hA ls hl
  obtain ⟨hx, hb, hml, hown, hts⟩ := id S9
  have hLF := LF.mk hPQ
  have hP := hPQ.1.1
  have hl : lv_has ls 3 [(0, .ref a.aX), (1, .int (nI j))] := hl
  refine lv_aload_n hx hb dL_heat_0 rfl (lv_at hl 0 rfl) ?_
  refine lv_iload_n hx hb dL_heat_1 rfl (lv_at hl 1 rfl) ?_
  refine wr_V S9 hLF (o_heat l G cy kS vS a V u j ho hj) (bigV 1 hts (big_at 17 2 rfl) (big_at 0 6 rfl) (big_at 17 5 rfl) (big_at 17 3 rfl) (big_at 17 4 rfl) rfl rfl (by decide +kernel) ⟨Nat.le_of_ble_eq_true rfl, Nat.le_of_ble_eq_true rfl⟩) hP hD hS hA rfl hl.1 rfl (Nat.le_of_ble_eq_true rfl) ⟨Nat.zero_le _, Nat.zero_le _⟩ dL_heat_2 (fun H locs hP hD hS => ?_)
  exact lx_iret (ex := []) hx hb hr hlocks ⟨rfl, rfl⟩ hP hS (Nat.zero_le _) (Nat.zero_le _) dL_heat_5
set_option maxRecDepth 100000 in
set_option maxHeartbeats 1000000 in
theorem q_heat_1 (l : Launch) (G : va_G) (cy : Nat → ClassId) (kS vS : Nat → Nat) (a : OA) (V : OV) (b : Int32) (hl9 : l.stackTraces = false) (ho : Ok V.σ) (hF : ¬ inI b (nI (nB V.σ)) = true) : LQ l yL_heat 11 220 1 G cy kS vS a V V [.ref a.aX, .int b] (.int (-11)) := by
  refine LX.ofWX (cc := cL_heat) (maxL := 3) (ret := (some .int)) (hh := [(0, 5, 6, 20)]) (by decide) (big_at 21 15 rfl) (Nat.le_of_ble_eq_true rfl) ?_
  intro p e s m below meth cq u S9 hr hlocks htab hPQ hD hS hA ls hl
  obtain ⟨hx, hb, hml, hown, hts⟩ := id S9
  have hLF := LF.mk hPQ
  have hP := hPQ.1.1
  have hl : lv_has ls 3 [(0, .ref a.aX), (1, .int b)] := hl
  refine lv_aload_n hx hb dL_heat_0 rfl (lv_at hl 0 rfl) ?_
  refine lv_iload_n hx hb dL_heat_1 rfl (lv_at hl 1 rfl) ?_
  refine wr_T S9 hLF (o_heat1 l G cy kS vS a V u b hl9 ho hF) (bigV 1 hts (big_at 17 2 rfl) (big_at 0 6 rfl) (big_at 17 5 rfl) (big_at 17 3 rfl) (big_at 17 4 rfl) rfl rfl (by decide +kernel) ⟨Nat.le_of_ble_eq_true rfl, Nat.le_of_ble_eq_true rfl⟩) hP hD hS hA rfl hl.1 rfl (Nat.le_of_ble_eq_true rfl) ⟨Nat.le_of_ble_eq_true rfl, Nat.le_of_ble_eq_true rfl⟩ dL_heat_2 (tableOf []) ⟨0, 5, 6, 20⟩ (tableOf []) (htab.trans rfl) (by intro z hz; cases hz) (by decide) (by decide) (nwl hLF.2.2.1 (.classLink RL 20 xIOB) (by decide +kernel)) (hLF.2.2.1.2.2.1 (.castable xIOB xIOB) (by decide +kernel)) (fun H locs qx hP hD hS => ?_)
  refine lv_astore_n (lv' := [(2, .ref qx), (0, .ref a.aX), (1, .int b)]) hx hb dL_heat_6 rfl hl (by decide) rfl (fun ls hl => ?_)
  refine lv_bipush (v := (-11)) hx hb dL_heat_7 (by decide) ?_
  exact lx_iret (ex := []) hx hb hr hlocks ⟨rfl, rfl⟩ hP hS (Nat.le_of_ble_eq_true rfl) (Nat.le_of_ble_eq_true rfl) dL_heat_9
set_option maxRecDepth 100000 in
set_option maxHeartbeats 1000000 in
theorem q_temperature (l : Launch) (G : va_G) (cy : Nat → ClassId) (kS vS : Nat → Nat) (a : OA) (V : OV) (j : Nat) (ho : Ok V.σ) (hj : j < nB V.σ) (hwt : wet (vB V.σ) j = true) : LQ l yL_temperature 11 220 1 G cy kS vS a V V [.ref a.aX, .int (nI j)] (.int (rdeg (hB V.σ j) (vB V.σ j))) := by
  refine LX.ofWX (cc := cL_temperature) (maxL := 3) (ret := (some .int)) (hh := [(0, 5, 6, 20), (0, 5, 10, 33)]) (by decide) (big_at 17 18 rfl) (Nat.le_of_ble_eq_true rfl) ?_
  intro p e s m below meth cq u S9 hr hlocks htab hPQ hD hS hA ls hl
  obtain ⟨hx, hb, hml, hown, hts⟩ := id S9
  have hLF := LF.mk hPQ
  have hP := hPQ.1.1
  have hl : lv_has ls 3 [(0, .ref a.aX), (1, .int (nI j))] := hl
  refine lv_aload_n hx hb dL_temperature_0 rfl (lv_at hl 0 rfl) ?_
  refine lv_iload_n hx hb dL_temperature_1 rfl (lv_at hl 1 rfl) ?_
  refine wr_V S9 hLF (o_temperature l G cy kS vS a V u j ho hj hwt) (bigV 1 hts (big_at 17 19 rfl) (big_at 0 6 rfl) (big_at 17 22 rfl) (big_at 17 20 rfl) (big_at 17 21 rfl) rfl rfl (by decide +kernel) ⟨Nat.le_of_ble_eq_true rfl, Nat.le_of_ble_eq_true rfl⟩) hP hD hS hA rfl hl.1 rfl (Nat.le_of_ble_eq_true rfl) ⟨Nat.zero_le _, Nat.zero_le _⟩ dL_temperature_2 (fun H locs hP hD hS => ?_)
  exact lx_iret (ex := []) hx hb hr hlocks ⟨rfl, rfl⟩ hP hS (Nat.zero_le _) (Nat.zero_le _) dL_temperature_5
set_option maxRecDepth 100000 in
set_option maxHeartbeats 1000000 in
theorem q_temperature_1 (l : Launch) (G : va_G) (cy : Nat → ClassId) (kS vS : Nat → Nat) (a : OA) (V : OV) (b : Int32) (hl9 : l.stackTraces = false) (ho : Ok V.σ) (hF : ¬ inI b (nI (nB V.σ)) = true) : LQ l yL_temperature 11 220 1 G cy kS vS a V V [.ref a.aX, .int b] (.int (-11)) := by
  refine LX.ofWX (cc := cL_temperature) (maxL := 3) (ret := (some .int)) (hh := [(0, 5, 6, 20), (0, 5, 10, 33)]) (by decide) (big_at 17 18 rfl) (Nat.le_of_ble_eq_true rfl) ?_
  intro p e s m below meth cq u S9 hr hlocks htab hPQ hD hS hA ls hl
  obtain ⟨hx, hb, hml, hown, hts⟩ := id S9
  have hLF := LF.mk hPQ
  have hP := hPQ.1.1
  have hl : lv_has ls 3 [(0, .ref a.aX), (1, .int b)] := hl
  refine lv_aload_n hx hb dL_temperature_0 rfl (lv_at hl 0 rfl) ?_
  refine lv_iload_n hx hb dL_temperature_1 rfl (lv_at hl 1 rfl) ?_
  refine wr_T S9 hLF (o_temperature1 l G cy kS vS a V u b hl9 ho hF) (bigV 1 hts (big_at 17 19 rfl) (big_at 0 6 rfl) (big_at 17 22 rfl) (big_at 17 20 rfl) (big_at 17 21 rfl) rfl rfl (by decide +kernel) ⟨Nat.le_of_ble_eq_true rfl, Nat.le_of_ble_eq_true rfl⟩) hP hD hS hA rfl hl.1 rfl (Nat.le_of_ble_eq_true rfl) ⟨Nat.le_of_ble_eq_true rfl, Nat.le_of_ble_eq_true rfl⟩ dL_temperature_2 (tableOf []) ⟨0, 5, 6, 20⟩ (tableOf [(0, 5, 10, 33)]) (htab.trans rfl) (by intro z hz; cases hz) (by decide) (by decide) (nwl hLF.2.2.1 (.classLink RL 20 xIOB) (by decide +kernel)) (hLF.2.2.1.2.2.1 (.castable xIOB xIOB) (by decide +kernel)) (fun H locs qx hP hD hS => ?_)
  refine lv_astore_n (lv' := [(2, .ref qx), (0, .ref a.aX), (1, .int b)]) hx hb dL_temperature_6 rfl hl (by decide) rfl (fun ls hl => ?_)
  refine lv_bipush (v := (-11)) hx hb dL_temperature_7 (by decide) ?_
  exact lx_iret (ex := []) hx hb hr hlocks ⟨rfl, rfl⟩ hP hS (Nat.le_of_ble_eq_true rfl) (Nat.le_of_ble_eq_true rfl) dL_temperature_9
