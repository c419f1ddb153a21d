/-! the law's methods that ask once, 1 -/
set_option maxRecDepth 100000 in
set_option maxHeartbeats 1000000 in
theorem q_temperature_2 (l : Launch) (G : va_G) (cy : Nat → ClassId) (kS vS : Nat → Nat) (a : OA) (V : OV) (j : Nat) (hl9 : l.stackTraces = false) (ho : Ok V.σ) (hj : j < nB V.σ) (hwt : ¬ wet (vB V.σ) j = true) : LQ l yL_temperature 11 220 1 G cy kS vS a V V [.ref a.aX, .int (nI j)] (.int (-13)) := by
  refine LX.ofWX (cc := cL_temperature) (maxL := 3) (ret := (some .int)) (hh := [(0, 5, 6, 20), (0, 5, 10, 33)]) (by decide) (big_at 17 18 rfl) (Nat.le_of_ble_eq_true rfl) ?_
  intro p e s m below meth cq u S9 hr hlocks htab hPQ hD hS hA ls hl
  obtain ⟨hx, hb, hml, hown, hts⟩ := id S9
  have hLF := LF.mk hPQ
  have hP := hPQ.1.1
  have hl : lv_has ls 3 [(0, .ref a.aX), (1, .int (nI j))] := hl
  refine lv_aload_n hx hb dL_temperature_0 rfl (lv_at hl 0 rfl) ?_
  refine lv_iload_n hx hb dL_temperature_1 rfl (lv_at hl 1 rfl) ?_
  refine wr_T S9 hLF (o_temperature2 l G cy kS vS a V u j hl9 ho hj hwt) (bigV 1 hts (big_at 17 19 rfl) (big_at 0 6 rfl) (big_at 17 22 rfl) (big_at 17 20 rfl) (big_at 17 21 rfl) rfl rfl (by decide +kernel) ⟨Nat.le_of_ble_eq_true rfl, Nat.le_of_ble_eq_true rfl⟩) hP hD hS hA rfl hl.1 rfl (Nat.le_of_ble_eq_true rfl) ⟨Nat.le_of_ble_eq_true rfl, Nat.le_of_ble_eq_true rfl⟩ dL_temperature_2 (tableOf [(0, 5, 6, 20)]) ⟨0, 5, 10, 33⟩ (tableOf []) (htab.trans rfl) (by intro z hz; simp only [tableOf, List.map_cons, List.map_nil, List.mem_cons, List.not_mem_nil, or_false] at hz; rcases hz with rfl <;> first | exact Or.inr ⟨by decide, xIOB, nwl hLF.2.2.1 (.classLink RL 20 xIOB) (by decide +kernel), hLF.2.2.1.2.2.2.2 (xNSE, xIOB) (by decide +kernel)⟩) (by decide) (by decide) (nwl hLF.2.2.1 (.classLink RL 33 xNSE) (by decide +kernel)) (hLF.2.2.1.2.2.1 (.castable xNSE xNSE) (by decide +kernel)) (fun H locs qx hP hD hS => ?_)
  refine lv_astore_n (lv' := [(2, .ref qx), (0, .ref a.aX), (1, .int (nI j))]) hx hb dL_temperature_10 rfl hl (by decide) rfl (fun ls hl => ?_)
  refine lv_bipush (v := (-13)) hx hb dL_temperature_11 (by decide) ?_
  exact lx_iret (ex := []) hx hb hr hlocks ⟨rfl, rfl⟩ hP hS (Nat.le_of_ble_eq_true rfl) (Nat.le_of_ble_eq_true rfl) dL_temperature_13
set_option maxRecDepth 100000 in
set_option maxHeartbeats 1000000 in
theorem q_isWarmer (l : Launch) (G : va_G) (cy : Nat → ClassId) (kS vS : Nat → Nat) (a : OA) (V : OV) (j : Nat) (k9 : Nat) (ho : Ok V.σ) (hj : j < nB V.σ) (hk9 : k9 < nB V.σ) (hwt : wet (vB V.σ) j = true) (hwk : wet (vB V.σ) k9 = true) : LQ l yL_isWarmer 11 220 1 G cy kS vS a V V [.ref a.aX, .int (nI j), .int (nI k9)] (.int (bz (if hotter (vB V.σ) (hB V.σ) j k9 = true then 1 else 0))) := by
  refine LX.ofWX (cc := cL_isWarmer) (maxL := 4) (ret := (some .int)) (hh := [(0, 14, 15, 20), (0, 14, 19, 33)]) (by decide) (big_at 18 11 rfl) (Nat.le_of_ble_eq_true rfl) ?_
  intro p e s m below meth cq u S9 hr hlocks htab hPQ hD hS hA ls hl
  obtain ⟨hx, hb, hml, hown, hts⟩ := id S9
  have hLF := LF.mk hPQ
  have hP := hPQ.1.1
  have hl : lv_has ls 4 [(0, .ref a.aX), (1, .int (nI j)), (2, .int (nI k9))] := hl
  refine lv_aload_n hx hb dL_isWarmer_0 rfl (lv_at hl 0 rfl) ?_
  refine lv_iload_n hx hb dL_isWarmer_1 rfl (lv_at hl 1 rfl) ?_
  refine lv_iload_n hx hb dL_isWarmer_2 rfl (lv_at hl 2 rfl) ?_
  refine wr_V S9 hLF (o_isWarmer l G cy kS vS a V u j k9 ho hj hk9 hwt hwk) (bigV 2 hts (big_at 18 12 rfl) (big_at 0 6 rfl) (big_at 18 15 rfl) (big_at 18 13 rfl) (big_at 18 14 rfl) rfl rfl (by decide +kernel) ⟨Nat.le_of_ble_eq_true rfl, Nat.le_of_ble_eq_true rfl⟩) hP hD hS hA rfl hl.1 rfl (Nat.le_of_ble_eq_true rfl) ⟨Nat.zero_le _, Nat.zero_le _⟩ dL_isWarmer_3 (fun H locs hP hD hS => ?_)
  refine lv_if_eq (tgt := 13) hx hb dL_isWarmer_6 (by decide) (fun c9 => ?_) (fun c9 => ?_)
  · refine lv_iconst (v := 0) hx hb dL_isWarmer_13 (by decide) ?_
    exact lx_iret (ex := []) hx hb hr hlocks ⟨rfl, congrArg Value.int (show (0 : Int32) = bz (if hotter (vB V.σ) (hB V.σ) j k9 = true then 1 else 0) from (if_pos c9).symm).symm.symm⟩ hP hS (Nat.zero_le _) (Nat.zero_le _) dL_isWarmer_14
  · refine lv_iconst (v := 1) hx hb dL_isWarmer_9 (by decide) ?_
    refine lv_goto (tgt := 14) hx hb dL_isWarmer_10 (by decide) ?_
    exact lx_iret (ex := []) hx hb hr hlocks ⟨rfl, congrArg Value.int (show (1 : Int32) = bz (if hotter (vB V.σ) (hB V.σ) j k9 = true then 1 else 0) from (if_neg c9).symm).symm.symm⟩ hP hS (Nat.zero_le _) (Nat.zero_le _) dL_isWarmer_14
set_option maxRecDepth 100000 in
set_option maxHeartbeats 1000000 in
theorem q_isWarmer_1 (l : Launch) (G : va_G) (cy : Nat → ClassId) (kS vS : Nat → Nat) (a : OA) (V : OV) (b : Int32) (t : Int32) (hl9 : l.stackTraces = false) (ho : Ok V.σ) (hF : ¬ inI b (nI (nB V.σ)) = true) : LQ l yL_isWarmer 11 220 1 G cy kS vS a V V [.ref a.aX, .int b, .int t] (.int (-11)) := by
  refine LX.ofWX (cc := cL_isWarmer) (maxL := 4) (ret := (some .int)) (hh := [(0, 14, 15, 20), (0, 14, 19, 33)]) (by decide) (big_at 18 11 rfl) (Nat.le_of_ble_eq_true rfl) ?_
  intro p e s m below meth cq u S9 hr hlocks htab hPQ hD hS hA ls hl
  obtain ⟨hx, hb, hml, hown, hts⟩ := id S9
  have hLF := LF.mk hPQ
  have hP := hPQ.1.1
  have hl : lv_has ls 4 [(0, .ref a.aX), (1, .int b), (2, .int t)] := hl
  refine lv_aload_n hx hb dL_isWarmer_0 rfl (lv_at hl 0 rfl) ?_
  refine lv_iload_n hx hb dL_isWarmer_1 rfl (lv_at hl 1 rfl) ?_
  refine lv_iload_n hx hb dL_isWarmer_2 rfl (lv_at hl 2 rfl) ?_
  refine wr_T S9 hLF (o_isWarmer1 l G cy kS vS a V u b t hl9 ho hF) (bigV 2 hts (big_at 18 12 rfl) (big_at 0 6 rfl) (big_at 18 15 rfl) (big_at 18 13 rfl) (big_at 18 14 rfl) rfl rfl (by decide +kernel) ⟨Nat.le_of_ble_eq_true rfl, Nat.le_of_ble_eq_true rfl⟩) hP hD hS hA rfl hl.1 rfl (Nat.le_of_ble_eq_true rfl) ⟨Nat.le_of_ble_eq_true rfl, Nat.le_of_ble_eq_true rfl⟩ dL_isWarmer_3 (tableOf []) ⟨0, 14, 15, 20⟩ (tableOf [(0, 14, 19, 33)]) (htab.trans rfl) (by intro z hz; cases hz) (by decide) (by decide) (nwl hLF.2.2.1 (.classLink RL 20 xIOB) (by decide +kernel)) (hLF.2.2.1.2.2.1 (.castable xIOB xIOB) (by decide +kernel)) (fun H locs qx hP hD hS => ?_)
  refine lv_astore_n (lv' := [(3, .ref qx), (0, .ref a.aX), (1, .int b), (2, .int t)]) hx hb dL_isWarmer_15 rfl hl (by decide) rfl (fun ls hl => ?_)
  refine lv_bipush (v := (-11)) hx hb dL_isWarmer_16 (by decide) ?_
  exact lx_iret (ex := []) hx hb hr hlocks ⟨rfl, rfl⟩ hP hS (Nat.le_of_ble_eq_true rfl) (Nat.le_of_ble_eq_true rfl) dL_isWarmer_18
set_option maxRecDepth 100000 in
set_option maxHeartbeats 1000000 in
theorem q_isWarmer_2 (l : Launch) (G : va_G) (cy : Nat → ClassId) (kS vS : Nat → Nat) (a : OA) (V : OV) (j : Nat) (b : Int32) (hl9 : l.stackTraces = false) (ho : Ok V.σ) (hj : j < nB V.σ) (hF : ¬ inI b (nI (nB V.σ)) = true) : LQ l yL_isWarmer 11 220 1 G cy kS vS a V V [.ref a.aX, .int (nI j), .int b] (.int (-11)) := by
  refine LX.ofWX (cc := cL_isWarmer) (maxL := 4) (ret := (some .int)) (hh := [(0, 14, 15, 20), (0, 14, 19, 33)]) (by decide) (big_at 18 11 rfl) (Nat.le_of_ble_eq_true rfl) ?_
  intro p e s m below meth cq u S9 hr hlocks htab hPQ hD hS hA ls hl
  obtain ⟨hx, hb, hml, hown, hts⟩ := id S9
  have hLF := LF.mk hPQ
  have hP := hPQ.1.1
  have hl : lv_has ls 4 [(0, .ref a.aX), (1, .int (nI j)), (2, .int b)] := hl
  refine lv_aload_n hx hb dL_isWarmer_0 rfl (lv_at hl 0 rfl) ?_
  refine lv_iload_n hx hb dL_isWarmer_1 rfl (lv_at hl 1 rfl) ?_
  refine lv_iload_n hx hb dL_isWarmer_2 rfl (lv_at hl 2 rfl) ?_
  refine wr_T S9 hLF (o_isWarmer2 l G cy kS vS a V u j b hl9 ho hj hF) (bigV 2 hts (big_at 18 12 rfl) (big_at 0 6 rfl) (big_at 18 15 rfl) (big_at 18 13 rfl) (big_at 18 14 rfl) rfl rfl (by decide +kernel) ⟨Nat.le_of_ble_eq_true rfl, Nat.le_of_ble_eq_true rfl⟩) hP hD hS hA rfl hl.1 rfl (Nat.le_of_ble_eq_true rfl) ⟨Nat.le_of_ble_eq_true rfl, Nat.le_of_ble_eq_true rfl⟩ dL_isWarmer_3 (tableOf []) ⟨0, 14, 15, 20⟩ (tableOf [(0, 14, 19, 33)]) (htab.trans rfl) (by intro z hz; cases hz) (by decide) (by decide) (nwl hLF.2.2.1 (.classLink RL 20 xIOB) (by decide +kernel)) (hLF.2.2.1.2.2.1 (.castable xIOB xIOB) (by decide +kernel)) (fun H locs qx hP hD hS => ?_)
  refine lv_astore_n (lv' := [(3, .ref qx), (0, .ref a.aX), (1, .int (nI j)), (2, .int b)]) hx hb dL_isWarmer_15 rfl hl (by decide) rfl (fun ls hl => ?_)
  refine lv_bipush (v := (-11)) hx hb dL_isWarmer_16 (by decide) ?_
  exact lx_iret (ex := []) hx hb hr hlocks ⟨rfl, rfl⟩ hP hS (Nat.le_of_ble_eq_true rfl) (Nat.le_of_ble_eq_true rfl) dL_isWarmer_18
set_option maxRecDepth 100000 in
set_option maxHeartbeats 1000000 in
theorem q_isWarmer_3 (l : Launch) (G : va_G) (cy : Nat → ClassId) (kS vS : Nat → Nat) (a : OA) (V : OV) (j : Nat) (k9 : Nat) (hl9 : l.stackTraces = false) (ho : Ok V.σ) (hj : j < nB V.σ) (hk9 : k9 < nB V.σ) (hwt : ¬ wet (vB V.σ) j = true) : LQ l yL_isWarmer 11 220 1 G cy kS vS a V V [.ref a.aX, .int (nI j), .int (nI k9)] (.int (-13)) := by
  refine LX.ofWX (cc := cL_isWarmer) (maxL := 4) (ret := (some .int)) (hh := [(0, 14, 15, 20), (0, 14, 19, 33)]) (by decide) (big_at 18 11 rfl) (Nat.le_of_ble_eq_true rfl) ?_
  intro p e s m below meth cq u S9 hr hlocks htab hPQ hD hS hA ls hl
  obtain ⟨hx, hb, hml, hown, hts⟩ := id S9
  have hLF := LF.mk hPQ
  have hP := hPQ.1.1
  have hl : lv_has ls 4 [(0, .ref a.aX), (1, .int (nI j)), (2, .int (nI k9))] := hl
  refine lv_aload_n hx hb dL_isWarmer_0 rfl (lv_at hl 0 rfl) ?_
  refine lv_iload_n hx hb dL_isWarmer_1 rfl (lv_at hl 1 rfl) ?_
  refine lv_iload_n hx hb dL_isWarmer_2 rfl (lv_at hl 2 rfl) ?_
  refine wr_T S9 hLF (o_isWarmer3 l G cy kS vS a V u j k9 hl9 ho hj hk9 hwt) (bigV 2 hts (big_at 18 12 rfl) (big_at 0 6 rfl) (big_at 18 15 rfl) (big_at 18 13 rfl) (big_at 18 14 rfl) rfl rfl (by decide +kernel) ⟨Nat.le_of_ble_eq_true rfl, Nat.le_of_ble_eq_true rfl⟩) hP hD hS hA rfl hl.1 rfl (Nat.le_of_ble_eq_true rfl) ⟨Nat.le_of_ble_eq_true rfl, Nat.le_of_ble_eq_true rfl⟩ dL_isWarmer_3 (tableOf [(0, 14, 15, 20)]) ⟨0, 14, 19, 33⟩ (tableOf []) (htab.trans rfl) (by intro z hz; simp only [tableOf, List.map_cons, List.map_nil, List.mem_cons, List.not_mem_nil, or_false] at hz; rcases hz with rfl <;> first | exact Or.inr ⟨by decide, xIOB, nwl hLF.2.2.1 (.classLink RL 20 xIOB) (by decide +kernel), hLF.2.2.1.2.2.2.2 (xNSE, xIOB) (by decide +kernel)⟩) (by decide) (by decide) (nwl hLF.2.2.1 (.classLink RL 33 xNSE) (by decide +kernel)) (hLF.2.2.1.2.2.1 (.castable xNSE xNSE) (by decide +kernel)) (fun H locs qx hP hD hS => ?_)
  refine lv_astore_n (lv' := [(3, .ref qx), (0, .ref a.aX), (1, .int (nI j)), (2, .int (nI k9))]) hx hb dL_isWarmer_19 rfl hl (by decide) rfl (fun ls hl => ?_)
  refine lv_bipush (v := (-13)) hx hb dL_isWarmer_20 (by decide) ?_
  exact lx_iret (ex := []) hx hb hr hlocks ⟨rfl, rfl⟩ hP hS (Nat.le_of_ble_eq_true rfl) (Nat.le_of_ble_eq_true rfl) dL_isWarmer_22
set_option maxRecDepth 100000 in
set_option maxHeartbeats 1000000 in
theorem q_isWarmer_4 (l : Launch) (G : va_G) (cy : Nat → ClassId) (kS vS : Nat → Nat) (a : OA) (V : OV) (j : Nat) (k9 : Nat) (hl9 : l.stackTraces = false) (ho : Ok V.σ) (hj : j < nB V.σ) (hk9 : k9 < nB V.σ) (hwt : wet (vB V.σ) j = true) (hwk : ¬ wet (vB V.σ) k9 = true) : LQ l yL_isWarmer 11 220 1 G cy kS vS a V V [.ref a.aX, .int (nI j), .int (nI k9)] (.int (-13)) := by
  refine LX.ofWX (cc := cL_isWarmer) (maxL := 4) (ret := (some .int)) (hh := [(0, 14, 15, 20), (0, 14, 19, 33)]) (by decide) (big_at 18 11 rfl) (Nat.le_of_ble_eq_true rfl) ?_
  intro p e s m below meth cq u S9 hr hlocks htab hPQ hD hS hA ls hl
  obtain ⟨hx, hb, hml, hown, hts⟩ := id S9
  have hLF := LF.mk hPQ
  have hP := hPQ.1.1
  have hl : lv_has ls 4 [(0, .ref a.aX), (1, .int (nI j)), (2, .int (nI k9))] := hl
  refine lv_aload_n hx hb dL_isWarmer_0 rfl (lv_at hl 0 rfl) ?_
  refine lv_iload_n hx hb dL_isWarmer_1 rfl (lv_at hl 1 rfl) ?_
  refine lv_iload_n hx hb dL_isWarmer_2 rfl (lv_at hl 2 rfl) ?_
  refine wr_T S9 hLF (o_isWarmer4 l G cy kS vS a V u j k9 hl9 ho hj hk9 hwt hwk) (bigV 2 hts (big_at 18 12 rfl) (big_at 0 6 rfl) (big_at 18 15 rfl) (big_at 18 13 rfl) (big_at 18 14 rfl) rfl rfl (by decide +kernel) ⟨Nat.le_of_ble_eq_true rfl, Nat.le_of_ble_eq_true rfl⟩) hP hD hS hA rfl hl.1 rfl (Nat.le_of_ble_eq_true rfl) ⟨Nat.le_of_ble_eq_true rfl, Nat.le_of_ble_eq_true rfl⟩ dL_isWarmer_3 (tableOf [(0, 14, 15, 20)]) ⟨0, 14, 19, 33⟩ (tableOf []) (htab.trans rfl) (by intro z hz; simp only [tableOf, List.map_cons, List.map_nil, List.mem_cons, List.not_mem_nil, or_false] at hz; rcases hz with rfl <;> first | exact Or.inr ⟨by decide, xIOB, nwl hLF.2.2.1 (.classLink RL 20 xIOB) (by decide +kernel), hLF.2.2.1.2.2.2.2 (xNSE, xIOB) (by decide +kernel)⟩) (by decide) (by decide) (nwl hLF.2.2.1 (.classLink RL 33 xNSE) (by decide +kernel)) (hLF.2.2.1.2.2.1 (.castable xNSE xNSE) (by decide +kernel)) (fun H locs qx hP hD hS => ?_)
  refine lv_astore_n (lv' := [(3, .ref qx), (0, .ref a.aX), (1, .int (nI j)), (2, .int (nI k9))]) hx hb dL_isWarmer_19 rfl hl (by decide) rfl (fun ls hl => ?_)
  refine lv_bipush (v := (-13)) hx hb dL_isWarmer_20 (by decide) ?_
  exact lx_iret (ex := []) hx hb hr hlocks ⟨rfl, rfl⟩ hP hS (Nat.le_of_ble_eq_true rfl) (Nat.le_of_ble_eq_true rfl) dL_isWarmer_22
set_option maxRecDepth 100000 in
set_option maxHeartbeats 1000000 in
theorem q_isPlugged (l : Launch) (G : va_G) (cy : Nat → ClassId) (kS vS : Nat → Nat) (a : OA) (V : OV) (j : Nat) (ho : Ok V.σ) (hj : j < nB V.σ) : LQ l yL_isPlugged 11 220 1 G cy kS vS a V V [.ref a.aX, .int (nI j)] (.int (bz (pB V.σ j))) := by
  refine LX.ofWX (cc := cL_isPlugged) (maxL := 3) (ret := (some .int)) (hh := [(0, 13, 14, 20)]) (by decide) (big_at 21 9 rfl) (Nat.le_of_ble_eq_true rfl) ?_
  intro p e s m below meth cq u S9 hr hlocks htab hPQ hD hS hA ls hl
  obtain ⟨hx, hb, hml, hown, hts⟩ := id S9
  have hLF := LF.mk hPQ
  have hP := hPQ.1.1
  have hl : lv_has ls 3 [(0, .ref a.aX), (1, .int (nI j))] := hl
  refine lv_aload_n hx hb dL_isPlugged_0 rfl (lv_at hl 0 rfl) ?_
  refine lv_iload_n hx hb dL_isPlugged_1 rfl (lv_at hl 1 rfl) ?_
  refine wr_V S9 hLF (o_isPlugged l G cy kS vS a V u j ho hj) (bigV 1 hts (big_at 17 7 rfl) (big_at 0 6 rfl) (big_at 17 10 rfl) (big_at 17 8 rfl) (big_at 17 9 rfl) rfl rfl (by decide +kernel) ⟨Nat.le_of_ble_eq_true rfl, Nat.le_of_ble_eq_true rfl⟩) hP hD hS hA rfl hl.1 rfl (Nat.le_of_ble_eq_true rfl) ⟨Nat.zero_le _, Nat.zero_le _⟩ dL_isPlugged_2 (fun H locs hP hD hS => ?_)
  refine lv_if_eq (tgt := 12) hx hb dL_isPlugged_5 (by decide) (fun c9 => ?_) (fun c9 => ?_)
  · refine lv_iconst (v := 0) hx hb dL_isPlugged_12 (by decide) ?_
    exact lx_iret (ex := []) hx hb hr hlocks ⟨rfl, congrArg Value.int (show (0 : Int32) = bz (pB V.σ j) from (if_pos c9).symm).symm.symm⟩ hP hS (Nat.zero_le _) (Nat.zero_le _) dL_isPlugged_13
  · refine lv_iconst (v := 1) hx hb dL_isPlugged_8 (by decide) ?_
    refine lv_goto (tgt := 13) hx hb dL_isPlugged_9 (by decide) ?_
    exact lx_iret (ex := []) hx hb hr hlocks ⟨rfl, congrArg Value.int (show (1 : Int32) = bz (pB V.σ j) from (if_neg c9).symm).symm.symm⟩ hP hS (Nat.zero_le _) (Nat.zero_le _) dL_isPlugged_13
set_option maxRecDepth 100000 in
set_option maxHeartbeats 1000000 in
theorem q_isPlugged_1 (l : Launch) (G : va_G) (cy : Nat → ClassId) (kS vS : Nat → Nat) (a : OA) (V : OV) (b : Int32) (hl9 : l.stackTraces = false) (ho : Ok V.σ) (hF : ¬ inI b (nI (nB V.σ)) = true) : LQ l yL_isPlugged 11 220 1 G cy kS vS a V V [.ref a.aX, .int b] (.int (-11)) := by
  refine LX.ofWX (cc := cL_isPlugged) (maxL := 3) (ret := (some .int)) (hh := [(0, 13, 14, 20)]) (by decide) (big_at 21 9 rfl) (Nat.le_of_ble_eq_true rfl) ?_
  intro p e s m below meth cq u S9 hr hlocks htab hPQ hD hS hA ls hl
  obtain ⟨hx, hb, hml, hown, hts⟩ := id S9
  have hLF := LF.mk hPQ
  have hP := hPQ.1.1
  have hl : lv_has ls 3 [(0, .ref a.aX), (1, .int b)] := hl
  refine lv_aload_n hx hb dL_isPlugged_0 rfl (lv_at hl 0 rfl) ?_
  refine lv_iload_n hx hb dL_isPlugged_1 rfl (lv_at hl 1 rfl) ?_
  refine wr_T S9 hLF (o_isPlugged1 l G cy kS vS a V u b hl9 ho hF) (bigV 1 hts (big_at 17 7 rfl) (big_at 0 6 rfl) (big_at 17 10 rfl) (big_at 17 8 rfl) (big_at 17 9 rfl) rfl rfl (by decide +kernel) ⟨Nat.le_of_ble_eq_true rfl, Nat.le_of_ble_eq_true rfl⟩) hP hD hS hA rfl hl.1 rfl (Nat.le_of_ble_eq_true rfl) ⟨Nat.le_of_ble_eq_true rfl, Nat.le_of_ble_eq_true rfl⟩ dL_isPlugged_2 (tableOf []) ⟨0, 13, 14, 20⟩ (tableOf []) (htab.trans rfl) (by intro z hz; cases hz) (by decide) (by decide) (nwl hLF.2.2.1 (.classLink RL 20 xIOB) (by decide +kernel)) (hLF.2.2.1.2.2.1 (.castable xIOB xIOB) (by decide +kernel)) (fun H locs qx hP hD hS => ?_)
  refine lv_astore_n (lv' := [(2, .ref qx), (0, .ref a.aX), (1, .int b)]) hx hb dL_isPlugged_14 rfl hl (by decide) rfl (fun ls hl => ?_)
  refine lv_bipush (v := (-11)) hx hb dL_isPlugged_15 (by decide) ?_
  exact lx_iret (ex := []) hx hb hr hlocks ⟨rfl, rfl⟩ hP hS (Nat.le_of_ble_eq_true rfl) (Nat.le_of_ble_eq_true rfl) dL_isPlugged_17
set_option maxRecDepth 100000 in
set_option maxHeartbeats 1000000 in
theorem q_byTemperature (l : Launch) (G : va_G) (cy : Nat → ClassId) (kS vS : Nat → Nat) (a : OA) (V : OV) (j : Nat) (ho : Ok V.σ) (hj : j < nB V.σ) : LQ l yL_byTemperature 11 220 1 G cy kS vS a V V [.ref a.aX, .int (nI j)] (.int (atF (fun j => rkN (vB V.σ) (hB V.σ) j (nB V.σ)) (nI j) 0 (nB V.σ))) := by
  refine LX.ofWX (cc := cL_byTemperature) (maxL := 3) (ret := (some .int)) (hh := [(0, 5, 6, 33)]) (by decide) (big_at 20 10 rfl) (Nat.le_of_ble_eq_true rfl) ?_
  intro p e s m below meth cq u S9 hr hlocks htab hPQ hD hS hA ls hl
  obtain ⟨hx, hb, hml, hown, hts⟩ := id S9
  have hLF := LF.mk hPQ
  have hP := hPQ.1.1
  have hl : lv_has ls 3 [(0, .ref a.aX), (1, .int (nI j))] := hl
  refine lv_aload_n hx hb dL_byTemperature_0 rfl (lv_at hl 0 rfl) ?_
  refine lv_iload_n hx hb dL_byTemperature_1 rfl (lv_at hl 1 rfl) ?_
  refine wr_V S9 hLF (o_bathByTemperature l G cy kS vS a V u j ho hj) (bigV 1 hts (big_at 20 12 rfl) (big_at 0 6 rfl) (big_at 20 15 rfl) (big_at 20 13 rfl) (big_at 20 14 rfl) rfl rfl (by decide +kernel) ⟨Nat.le_of_ble_eq_true rfl, Nat.le_of_ble_eq_true rfl⟩) hP hD hS hA rfl hl.1 rfl (Nat.le_of_ble_eq_true rfl) ⟨Nat.zero_le _, Nat.zero_le _⟩ dL_byTemperature_2 (fun H locs hP hD hS => ?_)
  exact lx_iret (ex := []) hx hb hr hlocks ⟨rfl, rfl⟩ hP hS (Nat.zero_le _) (Nat.zero_le _) dL_byTemperature_5
set_option maxRecDepth 100000 in
set_option maxHeartbeats 1000000 in
theorem q_byTemperature_x (l : Launch) (G : va_G) (cy : Nat → ClassId) (kS vS : Nat → Nat) (a : OA) (V : OV) (b : Int32) (hl9 : l.stackTraces = false) (ho : Ok V.σ) (hF : ¬ inI b (nI (nB V.σ)) = true) : LQ l yL_byTemperature 11 220 1 G cy kS vS a V V [.ref a.aX, .int b] (.int (-13)) := by
  refine LX.ofWX (cc := cL_byTemperature) (maxL := 3) (ret := (some .int)) (hh := [(0, 5, 6, 33)]) (by decide) (big_at 20 10 rfl) (Nat.le_of_ble_eq_true rfl) ?_
  intro p e s m below meth cq u S9 hr hlocks htab hPQ hD hS hA ls hl
  obtain ⟨hx, hb, hml, hown, hts⟩ := id S9
  have hLF := LF.mk hPQ
  have hP := hPQ.1.1
  have hl : lv_has ls 3 [(0, .ref a.aX), (1, .int b)] := hl
  refine lv_aload_n hx hb dL_byTemperature_0 rfl (lv_at hl 0 rfl) ?_
  refine lv_iload_n hx hb dL_byTemperature_1 rfl (lv_at hl 1 rfl) ?_
  refine wr_T S9 hLF (o_bathByTemperature_x l G cy kS vS a V u b hl9 ho hF) (bigV 1 hts (big_at 20 12 rfl) (big_at 0 6 rfl) (big_at 20 15 rfl) (big_at 20 13 rfl) (big_at 20 14 rfl) rfl rfl (by decide +kernel) ⟨Nat.le_of_ble_eq_true rfl, Nat.le_of_ble_eq_true rfl⟩) hP hD hS hA rfl hl.1 rfl (Nat.le_of_ble_eq_true rfl) ⟨Nat.le_of_ble_eq_true rfl, Nat.le_of_ble_eq_true rfl⟩ dL_byTemperature_2 (tableOf []) ⟨0, 5, 6, 33⟩ (tableOf []) (htab.trans rfl) (by intro z hz; cases hz) (by decide) (by decide) (nwl hLF.2.2.1 (.classLink RL 33 xNSE) (by decide +kernel)) (hLF.2.2.1.2.2.1 (.castable xNSE xNSE) (by decide +kernel)) (fun H locs qx hP hD hS => ?_)
  refine lv_astore_n (lv' := [(2, .ref qx), (0, .ref a.aX), (1, .int b)]) hx hb dL_byTemperature_6 rfl hl (by decide) rfl (fun ls hl => ?_)
  refine lv_bipush (v := (-13)) hx hb dL_byTemperature_7 (by decide) ?_
  exact lx_iret (ex := []) hx hb hr hlocks ⟨rfl, rfl⟩ hP hS (Nat.le_of_ble_eq_true rfl) (Nat.le_of_ble_eq_true rfl) dL_byTemperature_9
set_option maxRecDepth 100000 in
set_option maxHeartbeats 1000000 in
theorem q_litres_1 (l : Launch) (G : va_G) (cy : Nat → ClassId) (kS vS : Nat → Nat) (a : OA) (V : OV) (b : Int32) (t : Int32) (g : Int32) (hl9 : l.stackTraces = false) (ho : Ok V.σ) (hF : ¬ inI b (nI (nB V.σ)) = true) : LQ l yL_litres 11 220 1 G cy kS vS a V V [.ref a.aX, .int b, .int t, .int g] (.int (-11)) := by
  refine LX.ofWX (cc := cL_litres) (maxL := 5) (ret := (some .int)) (hh := [(0, 7, 8, 20), (0, 7, 13, 22), (0, 7, 18, 33), (0, 7, 23, 24)]) (by decide) (big_at 18 22 rfl) (Nat.le_of_ble_eq_true rfl) ?_
  intro p e s m below meth cq u S9 hr hlocks htab hPQ hD hS hA ls hl
  obtain ⟨hx, hb, hml, hown, hts⟩ := id S9
  have hLF := LF.mk hPQ
  have hP := hPQ.1.1
  have hl : lv_has ls 5 [(0, .ref a.aX), (1, .int b), (2, .int t), (3, .int g)] := hl
  refine lv_aload_n hx hb dL_litres_0 rfl (lv_at hl 0 rfl) ?_
  refine lv_iload_n hx hb dL_litres_1 rfl (lv_at hl 1 rfl) ?_
  refine lv_iload_n hx hb dL_litres_2 rfl (lv_at hl 2 rfl) ?_
  refine lv_iload_n hx hb dL_litres_3 rfl (lv_at hl 3 rfl) ?_
  refine wr_T S9 hLF (o_litresToReach1 l G cy kS vS a V u b t g hl9 ho hF) (bigV 3 hts (big_at 18 23 rfl) (big_at 0 6 rfl) (big_at 19 2 rfl) (big_at 19 0 rfl) (big_at 19 1 rfl) rfl rfl (by decide +kernel) ⟨Nat.le_of_ble_eq_true rfl, Nat.le_of_ble_eq_true rfl⟩) hP hD hS hA rfl hl.1 rfl (Nat.le_of_ble_eq_true rfl) ⟨Nat.le_of_ble_eq_true rfl, Nat.le_of_ble_eq_true rfl⟩ dL_litres_4 (tableOf []) ⟨0, 7, 8, 20⟩ (tableOf [(0, 7, 13, 22), (0, 7, 18, 33), (0, 7, 23, 24)]) (htab.trans rfl) (by intro z hz; cases hz) (by decide) (by decide) (nwl hLF.2.2.1 (.classLink RL 20 xIOB) (by decide +kernel)) (hLF.2.2.1.2.2.1 (.castable xIOB xIOB) (by decide +kernel)) (fun H locs qx hP hD hS => ?_)
  refine lv_astore (lv' := [(4, .ref qx), (0, .ref a.aX), (1, .int b), (2, .int t), (3, .int g)]) hx hb dL_litres_8 hl (by decide) rfl (fun ls hl => ?_)
  refine lv_bipush (v := (-11)) hx hb dL_litres_10 (by decide) ?_
  exact lx_iret (ex := []) hx hb hr hlocks ⟨rfl, rfl⟩ hP hS (Nat.le_of_ble_eq_true rfl) (Nat.le_of_ble_eq_true rfl) dL_litres_12
set_option maxRecDepth 100000 in
set_option maxHeartbeats 1000000 in
theorem q_litres_2 (l : Launch) (G : va_G) (cy : Nat → ClassId) (kS vS : Nat → Nat) (a : OA) (V : OV) (j : Nat) (t : Int32) (g : Int32) (hl9 : l.stackTraces = false) (ho : Ok V.σ) (hj : j < nB V.σ) (hp9 : ¬ (tapB t = true ∧ inR g 0 99 = true)) : LQ l yL_litres 11 220 1 G cy kS vS a V V [.ref a.aX, .int (nI j), .int t, .int g] (.int (-12)) := by
  refine LX.ofWX (cc := cL_litres) (maxL := 5) (ret := (some .int)) (hh := [(0, 7, 8, 20), (0, 7, 13, 22), (0, 7, 18, 33), (0, 7, 23, 24)]) (by decide) (big_at 18 22 rfl) (Nat.le_of_ble_eq_true rfl) ?_
  intro p e s m below meth cq u S9 hr hlocks htab hPQ hD hS hA ls hl
  obtain ⟨hx, hb, hml, hown, hts⟩ := id S9
  have hLF := LF.mk hPQ
  have hP := hPQ.1.1
  have hl : lv_has ls 5 [(0, .ref a.aX), (1, .int (nI j)), (2, .int t), (3, .int g)] := hl
  refine lv_aload_n hx hb dL_litres_0 rfl (lv_at hl 0 rfl) ?_
  refine lv_iload_n hx hb dL_litres_1 rfl (lv_at hl 1 rfl) ?_
  refine lv_iload_n hx hb dL_litres_2 rfl (lv_at hl 2 rfl) ?_
  refine lv_iload_n hx hb dL_litres_3 rfl (lv_at hl 3 rfl) ?_
  refine wr_T S9 hLF (o_litresToReach2 l G cy kS vS a V u j t g hl9 ho hj hp9) (bigV 3 hts (big_at 18 23 rfl) (big_at 0 6 rfl) (big_at 19 2 rfl) (big_at 19 0 rfl) (big_at 19 1 rfl) rfl rfl (by decide +kernel) ⟨Nat.le_of_ble_eq_true rfl, Nat.le_of_ble_eq_true rfl⟩) hP hD hS hA rfl hl.1 rfl (Nat.le_of_ble_eq_true rfl) ⟨Nat.le_of_ble_eq_true rfl, Nat.le_of_ble_eq_true rfl⟩ dL_litres_4 (tableOf [(0, 7, 8, 20)]) ⟨0, 7, 13, 22⟩ (tableOf [(0, 7, 18, 33), (0, 7, 23, 24)]) (htab.trans rfl) (by intro z hz; simp only [tableOf, List.map_cons, List.map_nil, List.mem_cons, List.not_mem_nil, or_false] at hz; rcases hz with rfl <;> first | exact Or.inr ⟨by decide, xIOB, nwl hLF.2.2.1 (.classLink RL 20 xIOB) (by decide +kernel), hLF.2.2.1.2.2.2.2 (xIAE, xIOB) (by decide +kernel)⟩) (by decide) (by decide) (nwl hLF.2.2.1 (.classLink RL 22 xIAE) (by decide +kernel)) (hLF.2.2.1.2.2.1 (.castable xIAE xIAE) (by decide +kernel)) (fun H locs qx hP hD hS => ?_)
  refine lv_astore (lv' := [(4, .ref qx), (0, .ref a.aX), (1, .int (nI j)), (2, .int t), (3, .int g)]) hx hb dL_litres_13 hl (by decide) rfl (fun ls hl => ?_)
  refine lv_bipush (v := (-12)) hx hb dL_litres_15 (by decide) ?_
  exact lx_iret (ex := []) hx hb hr hlocks ⟨rfl, rfl⟩ hP hS (Nat.le_of_ble_eq_true rfl) (Nat.le_of_ble_eq_true rfl) dL_litres_17
set_option maxRecDepth 100000 in
set_option maxHeartbeats 1000000 in
theorem q_litres_3 (l : Launch) (G : va_G) (cy : Nat → ClassId) (kS vS : Nat → Nat) (a : OA) (V : OV) (j : Nat) (t : Int32) (g : Int32) (hl9 : l.stackTraces = false) (ho : Ok V.σ) (hj : j < nB V.σ) (ht9 : tapB t = true) (hg9 : inR g 0 99 = true) (hwt : ¬ wet (vB V.σ) j = true) : LQ l yL_litres 11 220 1 G cy kS vS a V V [.ref a.aX, .int (nI j), .int t, .int g] (.int (-13)) := by
  refine LX.ofWX (cc := cL_litres) (maxL := 5) (ret := (some .int)) (hh := [(0, 7, 8, 20), (0, 7, 13, 22), (0, 7, 18, 33), (0, 7, 23, 24)]) (by decide) (big_at 18 22 rfl) (Nat.le_of_ble_eq_true rfl) ?_
  intro p e s m below meth cq u S9 hr hlocks htab hPQ hD hS hA ls hl
  obtain ⟨hx, hb, hml, hown, hts⟩ := id S9
  have hLF := LF.mk hPQ
  have hP := hPQ.1.1
  have hl : lv_has ls 5 [(0, .ref a.aX), (1, .int (nI j)), (2, .int t), (3, .int g)] := hl
  refine lv_aload_n hx hb dL_litres_0 rfl (lv_at hl 0 rfl) ?_
  refine lv_iload_n hx hb dL_litres_1 rfl (lv_at hl 1 rfl) ?_
  refine lv_iload_n hx hb dL_litres_2 rfl (lv_at hl 2 rfl) ?_
  refine lv_iload_n hx hb dL_litres_3 rfl (lv_at hl 3 rfl) ?_
  refine wr_T S9 hLF (o_litresToReach3 l G cy kS vS a V u j t g hl9 ho hj ht9 hg9 hwt) (bigV 3 hts (big_at 18 23 rfl) (big_at 0 6 rfl) (big_at 19 2 rfl) (big_at 19 0 rfl) (big_at 19 1 rfl) rfl rfl (by decide +kernel) ⟨Nat.le_of_ble_eq_true rfl, Nat.le_of_ble_eq_true rfl⟩) hP hD hS hA rfl hl.1 rfl (Nat.le_of_ble_eq_true rfl) ⟨Nat.le_of_ble_eq_true rfl, Nat.le_of_ble_eq_true rfl⟩ dL_litres_4 (tableOf [(0, 7, 8, 20), (0, 7, 13, 22)]) ⟨0, 7, 18, 33⟩ (tableOf [(0, 7, 23, 24)]) (htab.trans rfl) (by intro z hz; simp only [tableOf, List.map_cons, List.map_nil, List.mem_cons, List.not_mem_nil, or_false] at hz; rcases hz with rfl | rfl <;> first | exact Or.inr ⟨by decide, xIOB, nwl hLF.2.2.1 (.classLink RL 20 xIOB) (by decide +kernel), hLF.2.2.1.2.2.2.2 (xNSE, xIOB) (by decide +kernel)⟩ | exact Or.inr ⟨by decide, xIAE, nwl hLF.2.2.1 (.classLink RL 22 xIAE) (by decide +kernel), hLF.2.2.1.2.2.2.2 (xNSE, xIAE) (by decide +kernel)⟩) (by decide) (by decide) (nwl hLF.2.2.1 (.classLink RL 33 xNSE) (by decide +kernel)) (hLF.2.2.1.2.2.1 (.castable xNSE xNSE) (by decide +kernel)) (fun H locs qx hP hD hS => ?_)
  refine lv_astore (lv' := [(4, .ref qx), (0, .ref a.aX), (1, .int (nI j)), (2, .int t), (3, .int g)]) hx hb dL_litres_18 hl (by decide) rfl (fun ls hl => ?_)
  refine lv_bipush (v := (-13)) hx hb dL_litres_20 (by decide) ?_
  exact lx_iret (ex := []) hx hb hr hlocks ⟨rfl, rfl⟩ hP hS (Nat.le_of_ble_eq_true rfl) (Nat.le_of_ble_eq_true rfl) dL_litres_22
set_option maxRecDepth 100000 in
set_option maxHeartbeats 1000000 in
theorem q_litres (l : Launch) (G : va_G) (cy : Nat → ClassId) (kS vS : Nat → Nat) (a : OA) (V : OV) (j : Nat) (t : Int32) (g : Int32) (R9 : Int32) (ho : Ok V.σ) (hj : j < nB V.σ) (hbd : Bd (vB V.σ) (hB V.σ)) (ht9 : tapB t = true) (hg9 : inR g 0 99 = true) (hwt : wet (vB V.σ) j = true) (hR0 : atF (ltF (vB V.σ j) (hB V.σ j) t g) 1 0 (101 - bx (vB V.σ j)) = R9) (hx9 : ¬ R9 = -1) : LQ l yL_litres 11 220 1 G cy kS vS a V V [.ref a.aX, .int (nI j), .int t, .int g] (.int R9) := by
  refine LX.ofWX (cc := cL_litres) (maxL := 5) (ret := (some .int)) (hh := [(0, 7, 8, 20), (0, 7, 13, 22), (0, 7, 18, 33), (0, 7, 23, 24)]) (by decide) (big_at 18 22 rfl) (Nat.le_of_ble_eq_true rfl) ?_
  intro p e s m below meth cq u S9 hr hlocks htab hPQ hD hS hA ls hl
  obtain ⟨hx, hb, hml, hown, hts⟩ := id S9
  have hLF := LF.mk hPQ
  have hP := hPQ.1.1
  have hl : lv_has ls 5 [(0, .ref a.aX), (1, .int (nI j)), (2, .int t), (3, .int g)] := hl
  refine lv_aload_n hx hb dL_litres_0 rfl (lv_at hl 0 rfl) ?_
  refine lv_iload_n hx hb dL_litres_1 rfl (lv_at hl 1 rfl) ?_
  refine lv_iload_n hx hb dL_litres_2 rfl (lv_at hl 2 rfl) ?_
  refine lv_iload_n hx hb dL_litres_3 rfl (lv_at hl 3 rfl) ?_
  refine wr_V S9 hLF (o_litresToReach l G cy kS vS a V u j t g R9 ho hj hbd ht9 hg9 hwt hR0 hx9) (bigV 3 hts (big_at 18 23 rfl) (big_at 0 6 rfl) (big_at 19 2 rfl) (big_at 19 0 rfl) (big_at 19 1 rfl) rfl rfl (by decide +kernel) ⟨Nat.le_of_ble_eq_true rfl, Nat.le_of_ble_eq_true rfl⟩) hP hD hS hA rfl hl.1 rfl (Nat.le_of_ble_eq_true rfl) ⟨Nat.zero_le _, Nat.zero_le _⟩ dL_litres_4 (fun H locs hP hD hS => ?_)
  exact lx_iret (ex := []) hx hb hr hlocks ⟨rfl, rfl⟩ hP hS (Nat.zero_le _) (Nat.zero_le _) dL_litres_7
set_option maxRecDepth 100000 in
set_option maxHeartbeats 1000000 in
theorem q_litres_4 (l : Launch) (G : va_G) (cy : Nat → ClassId) (kS vS : Nat → Nat) (a : OA) (V : OV) (j : Nat) (t : Int32) (g : Int32) (R9 : Int32) (hl9 : l.stackTraces = false) (ho : Ok V.σ) (hj : j < nB V.σ) (hbd : Bd (vB V.σ) (hB V.σ)) (ht9 : tapB t = true) (hg9 : inR g 0 99 = true) (hwt : wet (vB V.σ) j = true) (hR0 : atF (ltF (vB V.σ j) (hB V.σ j) t g) 1 0 (101 - bx (vB V.σ j)) = R9) (hx9 : R9 = -1) : LQ l yL_litres 11 220 1 G cy kS vS a V V [.ref a.aX, .int (nI j), .int t, .int g] (.int (-15)) := by
  refine LX.ofWX (cc := cL_litres) (maxL := 5) (ret := (some .int)) (hh := [(0, 7, 8, 20), (0, 7, 13, 22), (0, 7, 18, 33), (0, 7, 23, 24)]) (by decide) (big_at 18 22 rfl) (Nat.le_of_ble_eq_true rfl) ?_
  intro p e s m below meth cq u S9 hr hlocks htab hPQ hD hS hA ls hl
  obtain ⟨hx, hb, hml, hown, hts⟩ := id S9
  have hLF := LF.mk hPQ
  have hP := hPQ.1.1
  have hl : lv_has ls 5 [(0, .ref a.aX), (1, .int (nI j)), (2, .int t), (3, .int g)] := hl
  refine lv_aload_n hx hb dL_litres_0 rfl (lv_at hl 0 rfl) ?_
  refine lv_iload_n hx hb dL_litres_1 rfl (lv_at hl 1 rfl) ?_
  refine lv_iload_n hx hb dL_litres_2 rfl (lv_at hl 2 rfl) ?_
  refine lv_iload_n hx hb dL_litres_3 rfl (lv_at hl 3 rfl) ?_
  refine wr_T S9 hLF (o_litresToReach4 l G cy kS vS a V u j t g R9 hl9 ho hj hbd ht9 hg9 hwt hR0 hx9) (bigV 3 hts (big_at 18 23 rfl) (big_at 0 6 rfl) (big_at 19 2 rfl) (big_at 19 0 rfl) (big_at 19 1 rfl) rfl rfl (by decide +kernel) ⟨Nat.le_of_ble_eq_true rfl, Nat.le_of_ble_eq_true rfl⟩) hP hD hS hA rfl hl.1 rfl (Nat.le_of_ble_eq_true rfl) ⟨Nat.le_of_ble_eq_true rfl, Nat.le_of_ble_eq_true rfl⟩ dL_litres_4 (tableOf [(0, 7, 8, 20), (0, 7, 13, 22), (0, 7, 18, 33)]) ⟨0, 7, 23, 24⟩ (tableOf []) (htab.trans rfl) (by intro z hz; simp only [tableOf, List.map_cons, List.map_nil, List.mem_cons, List.not_mem_nil, or_false] at hz; rcases hz with rfl | rfl | rfl <;> first | exact Or.inr ⟨by decide, xIOB, nwl hLF.2.2.1 (.classLink RL 20 xIOB) (by decide +kernel), hLF.2.2.1.2.2.2.2 (xUOE, xIOB) (by decide +kernel)⟩ | exact Or.inr ⟨by decide, xIAE, nwl hLF.2.2.1 (.classLink RL 22 xIAE) (by decide +kernel), hLF.2.2.1.2.2.2.2 (xUOE, xIAE) (by decide +kernel)⟩ | exact Or.inr ⟨by decide, xNSE, nwl hLF.2.2.1 (.classLink RL 33 xNSE) (by decide +kernel), hLF.2.2.1.2.2.2.2 (xUOE, xNSE) (by decide +kernel)⟩) (by decide) (by decide) (nwl hLF.2.2.1 (.classLink RL 24 xUOE) (by decide +kernel)) (hLF.2.2.1.2.2.1 (.castable xUOE xUOE) (by decide +kernel)) (fun H locs qx hP hD hS => ?_)
  refine lv_astore (lv' := [(4, .ref qx), (0, .ref a.aX), (1, .int (nI j)), (2, .int t), (3, .int g)]) hx hb dL_litres_23 hl (by decide) rfl (fun ls hl => ?_)
  refine lv_bipush (v := (-15)) hx hb dL_litres_25 (by decide) ?_
  exact lx_iret (ex := []) hx hb hr hlocks ⟨rfl, rfl⟩ hP hS (Nat.le_of_ble_eq_true rfl) (Nat.le_of_ble_eq_true rfl) dL_litres_27
set_option maxRecDepth 100000 in
set_option maxHeartbeats 1000000 in
theorem q_byFormula_1 (l : Launch) (G : va_G) (cy : Nat → ClassId) (kS vS : Nat → Nat) (a : OA) (V : OV) (b : Int32) (t : Int32) (g : Int32) (hl9 : l.stackTraces = false) (ho : Ok V.σ) (hF : ¬ inI b (nI (nB V.σ)) = true) : LQ l yL_byFormula 11 220 1 G cy kS vS a V V [.ref a.aX, .int b, .int t, .int g] (.int (-11)) := by
  refine LX.ofWX (cc := cL_byFormula) (maxL := 5) (ret := (some .int)) (hh := [(0, 7, 8, 20), (0, 7, 13, 22), (0, 7, 18, 33), (0, 7, 23, 24)]) (by decide) (big_at 19 18 rfl) (Nat.le_of_ble_eq_true rfl) ?_
  intro p e s m below meth cq u S9 hr hlocks htab hPQ hD hS hA ls hl
  obtain ⟨hx, hb, hml, hown, hts⟩ := id S9
  have hLF := LF.mk hPQ
  have hP := hPQ.1.1
  have hl : lv_has ls 5 [(0, .ref a.aX), (1, .int b), (2, .int t), (3, .int g)] := hl
  refine lv_aload_n hx hb dL_byFormula_0 rfl (lv_at hl 0 rfl) ?_
  refine lv_iload_n hx hb dL_byFormula_1 rfl (lv_at hl 1 rfl) ?_
  refine lv_iload_n hx hb dL_byFormula_2 rfl (lv_at hl 2 rfl) ?_
  refine lv_iload_n hx hb dL_byFormula_3 rfl (lv_at hl 3 rfl) ?_
  refine wr_T S9 hLF (o_litresToReachByFormula1 l G cy kS vS a V u b t g hl9 ho hF) (bigV 3 hts (big_at 19 19 rfl) (big_at 0 6 rfl) (big_at 19 22 rfl) (big_at 19 20 rfl) (big_at 19 21 rfl) rfl rfl (by decide +kernel) ⟨Nat.le_of_ble_eq_true rfl, Nat.le_of_ble_eq_true rfl⟩) hP hD hS hA rfl hl.1 rfl (Nat.le_of_ble_eq_true rfl) ⟨Nat.le_of_ble_eq_true rfl, Nat.le_of_ble_eq_true rfl⟩ dL_byFormula_4 (tableOf []) ⟨0, 7, 8, 20⟩ (tableOf [(0, 7, 13, 22), (0, 7, 18, 33), (0, 7, 23, 24)]) (htab.trans rfl) (by intro z hz; cases hz) (by decide) (by decide) (nwl hLF.2.2.1 (.classLink RL 20 xIOB) (by decide +kernel)) (hLF.2.2.1.2.2.1 (.castable xIOB xIOB) (by decide +kernel)) (fun H locs qx hP hD hS => ?_)
  refine lv_astore (lv' := [(4, .ref qx), (0, .ref a.aX), (1, .int b), (2, .int t), (3, .int g)]) hx hb dL_byFormula_8 hl (by decide) rfl (fun ls hl => ?_)
  refine lv_bipush (v := (-11)) hx hb dL_byFormula_10 (by decide) ?_
  exact lx_iret (ex := []) hx hb hr hlocks ⟨rfl, rfl⟩ hP hS (Nat.le_of_ble_eq_true rfl) (Nat.le_of_ble_eq_true rfl) dL_byFormula_12
set_option maxRecDepth 100000 in
set_option maxHeartbeats 1000000 in
theorem q_byFormula_2 (l : Launch) (G : va_G) (cy : Nat → ClassId) (kS vS : Nat → Nat) (a : OA) (V : OV) (j : Nat) (t : Int32) (g : Int32) (hl9 : l.stackTraces = false) (ho : Ok V.σ) (hj : j < nB V.σ) (hp9 : ¬ (tapB t = true ∧ inR g 0 99 = true)) : LQ l yL_byFormula 11 220 1 G cy kS vS a V V [.ref a.aX, .int (nI j), .int t, .int g] (.int (-12)) := by
  refine LX.ofWX (cc := cL_byFormula) (maxL := 5) (ret := (some .int)) (hh := [(0, 7, 8, 20), (0, 7, 13, 22), (0, 7, 18, 33), (0, 7, 23, 24)]) (by decide) (big_at 19 18 rfl) (Nat.le_of_ble_eq_true rfl) ?_
  intro p e s m below meth cq u S9 hr hlocks htab hPQ hD hS hA ls hl
  obtain ⟨hx, hb, hml, hown, hts⟩ := id S9
  have hLF := LF.mk hPQ
  have hP := hPQ.1.1
  have hl : lv_has ls 5 [(0, .ref a.aX), (1, .int (nI j)), (2, .int t), (3, .int g)] := hl
  refine lv_aload_n hx hb dL_byFormula_0 rfl (lv_at hl 0 rfl) ?_
  refine lv_iload_n hx hb dL_byFormula_1 rfl (lv_at hl 1 rfl) ?_
  refine lv_iload_n hx hb dL_byFormula_2 rfl (lv_at hl 2 rfl) ?_
  refine lv_iload_n hx hb dL_byFormula_3 rfl (lv_at hl 3 rfl) ?_
  refine wr_T S9 hLF (o_litresToReachByFormula2 l G cy kS vS a V u j t g hl9 ho hj hp9) (bigV 3 hts (big_at 19 19 rfl) (big_at 0 6 rfl) (big_at 19 22 rfl) (big_at 19 20 rfl) (big_at 19 21 rfl) rfl rfl (by decide +kernel) ⟨Nat.le_of_ble_eq_true rfl, Nat.le_of_ble_eq_true rfl⟩) hP hD hS hA rfl hl.1 rfl (Nat.le_of_ble_eq_true rfl) ⟨Nat.le_of_ble_eq_true rfl, Nat.le_of_ble_eq_true rfl⟩ dL_byFormula_4 (tableOf [(0, 7, 8, 20)]) ⟨0, 7, 13, 22⟩ (tableOf [(0, 7, 18, 33), (0, 7, 23, 24)]) (htab.trans rfl) (by intro z hz; simp only [tableOf, List.map_cons, List.map_nil, List.mem_cons, List.not_mem_nil, or_false] at hz; rcases hz with rfl <;> first | exact Or.inr ⟨by decide, xIOB, nwl hLF.2.2.1 (.classLink RL 20 xIOB) (by decide +kernel), hLF.2.2.1.2.2.2.2 (xIAE, xIOB) (by decide +kernel)⟩) (by decide) (by decide) (nwl hLF.2.2.1 (.classLink RL 22 xIAE) (by decide +kernel)) (hLF.2.2.1.2.2.1 (.castable xIAE xIAE) (by decide +kernel)) (fun H locs qx hP hD hS => ?_)
  refine lv_astore (lv' := [(4, .ref qx), (0, .ref a.aX), (1, .int (nI j)), (2, .int t), (3, .int g)]) hx hb dL_byFormula_13 hl (by decide) rfl (fun ls hl => ?_)
  refine lv_bipush (v := (-12)) hx hb dL_byFormula_15 (by decide) ?_
  exact lx_iret (ex := []) hx hb hr hlocks ⟨rfl, rfl⟩ hP hS (Nat.le_of_ble_eq_true rfl) (Nat.le_of_ble_eq_true rfl) dL_byFormula_17
set_option maxRecDepth 100000 in
set_option maxHeartbeats 1000000 in
theorem q_byFormula_3 (l : Launch) (G : va_G) (cy : Nat → ClassId) (kS vS : Nat → Nat) (a : OA) (V : OV) (j : Nat) (t : Int32) (g : Int32) (hl9 : l.stackTraces = false) (ho : Ok V.σ) (hj : j < nB V.σ) (ht9 : tapB t = true) (hg9 : inR g 0 99 = true) (hwt : ¬ wet (vB V.σ) j = true) : LQ l yL_byFormula 11 220 1 G cy kS vS a V V [.ref a.aX, .int (nI j), .int t, .int g] (.int (-13)) := by
  refine LX.ofWX (cc := cL_byFormula) (maxL := 5) (ret := (some .int)) (hh := [(0, 7, 8, 20), (0, 7, 13, 22), (0, 7, 18, 33), (0, 7, 23, 24)]) (by decide) (big_at 19 18 rfl) (Nat.le_of_ble_eq_true rfl) ?_
  intro p e s m below meth cq u S9 hr hlocks htab hPQ hD hS hA ls hl
  obtain ⟨hx, hb, hml, hown, hts⟩ := id S9
  have hLF := LF.mk hPQ
  have hP := hPQ.1.1
  have hl : lv_has ls 5 [(0, .ref a.aX), (1, .int (nI j)), (2, .int t), (3, .int g)] := hl
  refine lv_aload_n hx hb dL_byFormula_0 rfl (lv_at hl 0 rfl) ?_
  refine lv_iload_n hx hb dL_byFormula_1 rfl (lv_at hl 1 rfl) ?_
  refine lv_iload_n hx hb dL_byFormula_2 rfl (lv_at hl 2 rfl) ?_
  refine lv_iload_n hx hb dL_byFormula_3 rfl (lv_at hl 3 rfl) ?_
  refine wr_T S9 hLF (o_litresToReachByFormula3 l G cy kS vS a V u j t g hl9 ho hj ht9 hg9 hwt) (bigV 3 hts (big_at 19 19 rfl) (big_at 0 6 rfl) (big_at 19 22 rfl) (big_at 19 20 rfl) (big_at 19 21 rfl) rfl rfl (by decide +kernel) ⟨Nat.le_of_ble_eq_true rfl, Nat.le_of_ble_eq_true rfl⟩) hP hD hS hA rfl hl.1 rfl (Nat.le_of_ble_eq_true rfl) ⟨Nat.le_of_ble_eq_true rfl, Nat.le_of_ble_eq_true rfl⟩ dL_byFormula_4 (tableOf [(0, 7, 8, 20), (0, 7, 13, 22)]) ⟨0, 7, 18, 33⟩ (tableOf [(0, 7, 23, 24)]) (htab.trans rfl) (by intro z hz; simp only [tableOf, List.map_cons, List.map_nil, List.mem_cons, List.not_mem_nil, or_false] at hz; rcases hz with rfl | rfl <;> first | exact Or.inr ⟨by decide, xIOB, nwl hLF.2.2.1 (.classLink RL 20 xIOB) (by decide +kernel), hLF.2.2.1.2.2.2.2 (xNSE, xIOB) (by decide +kernel)⟩ | exact Or.inr ⟨by decide, xIAE, nwl hLF.2.2.1 (.classLink RL 22 xIAE) (by decide +kernel), hLF.2.2.1.2.2.2.2 (xNSE, xIAE) (by decide +kernel)⟩) (by decide) (by decide) (nwl hLF.2.2.1 (.classLink RL 33 xNSE) (by decide +kernel)) (hLF.2.2.1.2.2.1 (.castable xNSE xNSE) (by decide +kernel)) (fun H locs qx hP hD hS => ?_)
  refine lv_astore (lv' := [(4, .ref qx), (0, .ref a.aX), (1, .int (nI j)), (2, .int t), (3, .int g)]) hx hb dL_byFormula_18 hl (by decide) rfl (fun ls hl => ?_)
  refine lv_bipush (v := (-13)) hx hb dL_byFormula_20 (by decide) ?_
  exact lx_iret (ex := []) hx hb hr hlocks ⟨rfl, rfl⟩ hP hS (Nat.le_of_ble_eq_true rfl) (Nat.le_of_ble_eq_true rfl) dL_byFormula_22
set_option maxRecDepth 100000 in
set_option maxHeartbeats 1000000 in
theorem q_byFormula (l : Launch) (G : va_G) (cy : Nat → ClassId) (kS vS : Nat → Nat) (a : OA) (V : OV) (j : Nat) (t : Int32) (g : Int32) (ho : Ok V.σ) (hj : j < nB V.σ) (hbd : Bd (vB V.σ) (hB V.σ)) (ht9 : tapB t = true) (hg9 : inR g 0 99 = true) (hwt : wet (vB V.σ) j = true) (hx9 : ¬ frmF (vB V.σ j) (hB V.σ j) t g = -1) : LQ l yL_byFormula 11 220 1 G cy kS vS a V V [.ref a.aX, .int (nI j), .int t, .int g] (.int (frmF (vB V.σ j) (hB V.σ j) t g)) := by
  refine LX.ofWX (cc := cL_byFormula) (maxL := 5) (ret := (some .int)) (hh := [(0, 7, 8, 20), (0, 7, 13, 22), (0, 7, 18, 33), (0, 7, 23, 24)]) (by decide) (big_at 19 18 rfl) (Nat.le_of_ble_eq_true rfl) ?_
  intro p e s m below meth cq u S9 hr hlocks htab hPQ hD hS hA ls hl
  obtain ⟨hx, hb, hml, hown, hts⟩ := id S9
  have hLF := LF.mk hPQ
  have hP := hPQ.1.1
  have hl : lv_has ls 5 [(0, .ref a.aX), (1, .int (nI j)), (2, .int t), (3, .int g)] := hl
  refine lv_aload_n hx hb dL_byFormula_0 rfl (lv_at hl 0 rfl) ?_
  refine lv_iload_n hx hb dL_byFormula_1 rfl (lv_at hl 1 rfl) ?_
  refine lv_iload_n hx hb dL_byFormula_2 rfl (lv_at hl 2 rfl) ?_
  refine lv_iload_n hx hb dL_byFormula_3 rfl (lv_at hl 3 rfl) ?_
  refine wr_V S9 hLF (o_litresToReachByFormula l G cy kS vS a V u j t g ho hj hbd ht9 hg9 hwt hx9) (bigV 3 hts (big_at 19 19 rfl) (big_at 0 6 rfl) (big_at 19 22 rfl) (big_at 19 20 rfl) (big_at 19 21 rfl) rfl rfl (by decide +kernel) ⟨Nat.le_of_ble_eq_true rfl, Nat.le_of_ble_eq_true rfl⟩) hP hD hS hA rfl hl.1 rfl (Nat.le_of_ble_eq_true rfl) ⟨Nat.zero_le _, Nat.zero_le _⟩ dL_byFormula_4 (fun H locs hP hD hS => ?_)
  exact lx_iret (ex := []) hx hb hr hlocks ⟨rfl, rfl⟩ hP hS (Nat.zero_le _) (Nat.zero_le _) dL_byFormula_7
set_option maxRecDepth 100000 in
set_option maxHeartbeats 1000000 in
theorem q_byFormula_4 (l : Launch) (G : va_G) (cy : Nat → ClassId) (kS vS : Nat → Nat) (a : OA) (V : OV) (j : Nat) (t : Int32) (g : Int32) (hl9 : l.stackTraces = false) (ho : Ok V.σ) (hj : j < nB V.σ) (hbd : Bd (vB V.σ) (hB V.σ)) (ht9 : tapB t = true) (hg9 : inR g 0 99 = true) (hwt : wet (vB V.σ) j = true) (hx9 : frmF (vB V.σ j) (hB V.σ j) t g = -1) : LQ l yL_byFormula 11 220 1 G cy kS vS a V V [.ref a.aX, .int (nI j), .int t, .int g] (.int (-15)) := by
  refine LX.ofWX (cc := cL_byFormula) (maxL := 5) (ret := (some .int)) (hh := [(0, 7, 8, 20), (0, 7, 13, 22), (0, 7, 18, 33), (0, 7, 23, 24)]) (by decide) (big_at 19 18 rfl) (Nat.le_of_ble_eq_true rfl) ?_
  intro p e s m below meth cq u S9 hr hlocks htab hPQ hD hS hA ls hl
  obtain ⟨hx, hb, hml, hown, hts⟩ := id S9
  have hLF := LF.mk hPQ
  have hP := hPQ.1.1
  have hl : lv_has ls 5 [(0, .ref a.aX), (1, .int (nI j)), (2, .int t), (3, .int g)] := hl
  refine lv_aload_n hx hb dL_byFormula_0 rfl (lv_at hl 0 rfl) ?_
  refine lv_iload_n hx hb dL_byFormula_1 rfl (lv_at hl 1 rfl) ?_
  refine lv_iload_n hx hb dL_byFormula_2 rfl (lv_at hl 2 rfl) ?_
  refine lv_iload_n hx hb dL_byFormula_3 rfl (lv_at hl 3 rfl) ?_
  refine wr_T S9 hLF (o_litresToReachByFormula4 l G cy kS vS a V u j t g hl9 ho hj hbd ht9 hg9 hwt hx9) (bigV 3 hts (big_at 19 19 rfl) (big_at 0 6 rfl) (big_at 19 22 rfl) (big_at 19 20 rfl) (big_at 19 21 rfl) rfl rfl (by decide +kernel) ⟨Nat.le_of_ble_eq_true rfl, Nat.le_of_ble_eq_true rfl⟩) hP hD hS hA rfl hl.1 rfl (Nat.le_of_ble_eq_true rfl) ⟨Nat.le_of_ble_eq_true rfl, Nat.le_of_ble_eq_true rfl⟩ dL_byFormula_4 (tableOf [(0, 7, 8, 20), (0, 7, 13, 22), (0, 7, 18, 33)]) ⟨0, 7, 23, 24⟩ (tableOf []) (htab.trans rfl) (by intro z hz; simp only [tableOf, List.map_cons, List.map_nil, List.mem_cons, List.not_mem_nil, or_false] at hz; rcases hz with rfl | rfl | rfl <;> first | exact Or.inr ⟨by decide, xIOB, nwl hLF.2.2.1 (.classLink RL 20 xIOB) (by decide +kernel), hLF.2.2.1.2.2.2.2 (xUOE, xIOB) (by decide +kernel)⟩ | exact Or.inr ⟨by decide, xIAE, nwl hLF.2.2.1 (.classLink RL 22 xIAE) (by decide +kernel), hLF.2.2.1.2.2.2.2 (xUOE, xIAE) (by decide +kernel)⟩ | exact Or.inr ⟨by decide, xNSE, nwl hLF.2.2.1 (.classLink RL 33 xNSE) (by decide +kernel), hLF.2.2.1.2.2.2.2 (xUOE, xNSE) (by decide +kernel)⟩) (by decide) (by decide) (nwl hLF.2.2.1 (.classLink RL 24 xUOE) (by decide +kernel)) (hLF.2.2.1.2.2.1 (.castable xUOE xUOE) (by decide +kernel)) (fun H locs qx hP hD hS => ?_)
  refine lv_astore (lv' := [(4, .ref qx), (0, .ref a.aX), (1, .int (nI j)), (2, .int t), (3, .int g)]) hx hb dL_byFormula_23 hl (by decide) rfl (fun ls hl => ?_)
  refine lv_bipush (v := (-15)) hx hb dL_byFormula_25 (by decide) ?_
  exact lx_iret (ex := []) hx hb hr hlocks ⟨rfl, rfl⟩ hP hS (Nat.le_of_ble_eq_true rfl) (Nat.le_of_ble_eq_true rfl) dL_byFormula_27
set_option maxRecDepth 100000 in
set_option maxHeartbeats 1000000 in
theorem q_isMember (l : Launch) (G : va_G) (cy : Nat → ClassId) (kS vS : Nat → Nat) (a : OA) (V : OV) (j : Nat) (ho : Ok V.σ) (hj : j < nB V.σ) : LQ l yL_isMember 11 220 1 G cy kS vS a V V [.ref a.aX, .int (nI j)] (.int (bz (mB V.σ j))) := by
  refine LX.ofWX (cc := cL_isMember) (maxL := 3) (ret := (some .int)) (hh := [(0, 13, 14, 20)]) (by decide) (big_at 24 11 rfl) (Nat.le_of_ble_eq_true rfl) ?_
  intro p e s m below meth cq u S9 hr hlocks htab hPQ hD hS hA ls hl
  obtain ⟨hx, hb, hml, hown, hts⟩ := id S9
  have hLF := LF.mk hPQ
  have hP := hPQ.1.1
  have hl : lv_has ls 3 [(0, .ref a.aX), (1, .int (nI j))] := hl
  refine lv_aload_n hx hb dL_isMember_0 rfl (lv_at hl 0 rfl) ?_
  refine lv_iload_n hx hb dL_isMember_1 rfl (lv_at hl 1 rfl) ?_
  refine wr_V S9 hLF (o_isMember l G cy kS vS a V u j ho hj) (bigV 1 hts (big_at 17 11 rfl) (big_at 0 6 rfl) (big_at 17 14 rfl) (big_at 17 12 rfl) (big_at 17 13 rfl) rfl rfl (by decide +kernel) ⟨Nat.le_of_ble_eq_true rfl, Nat.le_of_ble_eq_true rfl⟩) hP hD hS hA rfl hl.1 rfl (Nat.le_of_ble_eq_true rfl) ⟨Nat.zero_le _, Nat.zero_le _⟩ dL_isMember_2 (fun H locs hP hD hS => ?_)
  refine lv_if_eq (tgt := 12) hx hb dL_isMember_5 (by decide) (fun c9 => ?_) (fun c9 => ?_)
  · refine lv_iconst (v := 0) hx hb dL_isMember_12 (by decide) ?_
    exact lx_iret (ex := []) hx hb hr hlocks ⟨rfl, congrArg Value.int (show (0 : Int32) = bz (mB V.σ j) from (if_pos c9).symm).symm.symm⟩ hP hS (Nat.zero_le _) (Nat.zero_le _) dL_isMember_13
  · refine lv_iconst (v := 1) hx hb dL_isMember_8 (by decide) ?_
    refine lv_goto (tgt := 13) hx hb dL_isMember_9 (by decide) ?_
    exact lx_iret (ex := []) hx hb hr hlocks ⟨rfl, congrArg Value.int (show (1 : Int32) = bz (mB V.σ j) from (if_neg c9).symm).symm.symm⟩ hP hS (Nat.zero_le _) (Nat.zero_le _) dL_isMember_13
set_option maxRecDepth 100000 in
set_option maxHeartbeats 1000000 in
theorem q_isMember_1 (l : Launch) (G : va_G) (cy : Nat → ClassId) (kS vS : Nat → Nat) (a : OA) (V : OV) (b : Int32) (hl9 : l.stackTraces = false) (ho : Ok V.σ) (hF : ¬ inI b (nI (nB V.σ)) = true) : LQ l yL_isMember 11 220 1 G cy kS vS a V V [.ref a.aX, .int b] (.int (-11)) := by
  refine LX.ofWX (cc := cL_isMember) (maxL := 3) (ret := (some .int)) (hh := [(0, 13, 14, 20)]) (by decide) (big_at 24 11 rfl) (Nat.le_of_ble_eq_true rfl) ?_
  intro p e s m below meth cq u S9 hr hlocks htab hPQ hD hS hA ls hl
  obtain ⟨hx, hb, hml, hown, hts⟩ := id S9
  have hLF := LF.mk hPQ
  have hP := hPQ.1.1
  have hl : lv_has ls 3 [(0, .ref a.aX), (1, .int b)] := hl
  refine lv_aload_n hx hb dL_isMember_0 rfl (lv_at hl 0 rfl) ?_
  refine lv_iload_n hx hb dL_isMember_1 rfl (lv_at hl 1 rfl) ?_
  refine wr_T S9 hLF (o_isMember1 l G cy kS vS a V u b hl9 ho hF) (bigV 1 hts (big_at 17 11 rfl) (big_at 0 6 rfl) (big_at 17 14 rfl) (big_at 17 12 rfl) (big_at 17 13 rfl) rfl rfl (by decide +kernel) ⟨Nat.le_of_ble_eq_true rfl, Nat.le_of_ble_eq_true rfl⟩) hP hD hS hA rfl hl.1 rfl (Nat.le_of_ble_eq_true rfl) ⟨Nat.le_of_ble_eq_true rfl, Nat.le_of_ble_eq_true rfl⟩ dL_isMember_2 (tableOf []) ⟨0, 13, 14, 20⟩ (tableOf []) (htab.trans rfl) (by intro z hz; cases hz) (by decide) (by decide) (nwl hLF.2.2.1 (.classLink RL 20 xIOB) (by decide +kernel)) (hLF.2.2.1.2.2.1 (.castable xIOB xIOB) (by decide +kernel)) (fun H locs qx hP hD hS => ?_)
  refine lv_astore_n (lv' := [(2, .ref qx), (0, .ref a.aX), (1, .int b)]) hx hb dL_isMember_14 rfl hl (by decide) rfl (fun ls hl => ?_)
  refine lv_bipush (v := (-11)) hx hb dL_isMember_15 (by decide) ?_
  exact lx_iret (ex := []) hx hb hr hlocks ⟨rfl, rfl⟩ hP hS (Nat.le_of_ble_eq_true rfl) (Nat.le_of_ble_eq_true rfl) dL_isMember_17
set_option maxRecDepth 100000 in
set_option maxHeartbeats 1000000 in
theorem q_warmest (l : Launch) (G : va_G) (cy : Nat → ClassId) (kS vS : Nat → Nat) (a : OA) (V : OV) (j : Nat) (ho : Ok V.σ) (hO : hotO (vB V.σ) (hB V.σ) (mB V.σ) (nB V.σ) = some j) : LQ l yL_warmest 11 220 1 G cy kS vS a V V [.ref a.aX] (.int (nI j)) := by
  refine LX.ofWX (cc := cL_warmest) (maxL := 2) (ret := (some .int)) (hh := [(0, 4, 5, 33)]) (by decide) (big_at 22 21 rfl) (Nat.le_of_ble_eq_true rfl) ?_
  intro p e s m below meth cq u S9 hr hlocks htab hPQ hD hS hA ls hl
  obtain ⟨hx, hb, hml, hown, hts⟩ := id S9
  have hLF := LF.mk hPQ
  have hP := hPQ.1.1
  have hl : lv_has ls 2 [(0, .ref a.aX)] := hl
  refine lv_aload_n hx hb dL_warmest_0 rfl (lv_at hl 0 rfl) ?_
  refine wr_V S9 hLF (o_warmestMember l G cy kS vS a V u j ho hO) (bigV 0 hts (big_at 22 22 rfl) (big_at 0 6 rfl) (big_at 23 1 rfl) (big_at 22 23 rfl) (big_at 23 0 rfl) rfl rfl (by decide +kernel) ⟨Nat.le_of_ble_eq_true rfl, Nat.le_of_ble_eq_true rfl⟩) hP hD hS hA rfl hl.1 rfl (Nat.le_of_ble_eq_true rfl) ⟨Nat.zero_le _, Nat.zero_le _⟩ dL_warmest_1 (fun H locs hP hD hS => ?_)
  exact lx_iret (ex := []) hx hb hr hlocks ⟨rfl, rfl⟩ hP hS (Nat.zero_le _) (Nat.zero_le _) dL_warmest_4
set_option maxRecDepth 100000 in
set_option maxHeartbeats 1000000 in
theorem q_warmest_x (l : Launch) (G : va_G) (cy : Nat → ClassId) (kS vS : Nat → Nat) (a : OA) (V : OV)  (hl9 : l.stackTraces = false) (ho : Ok V.σ) (hO : hotO (vB V.σ) (hB V.σ) (mB V.σ) (nB V.σ) = none) : LQ l yL_warmest 11 220 1 G cy kS vS a V V [.ref a.aX] (.int (-13)) := by
  refine LX.ofWX (cc := cL_warmest) (maxL := 2) (ret := (some .int)) (hh := [(0, 4, 5, 33)]) (by decide) (big_at 22 21 rfl) (Nat.le_of_ble_eq_true rfl) ?_
  intro p e s m below meth cq u S9 hr hlocks htab hPQ hD hS hA ls hl
  obtain ⟨hx, hb, hml, hown, hts⟩ := id S9
  have hLF := LF.mk hPQ
  have hP := hPQ.1.1
  have hl : lv_has ls 2 [(0, .ref a.aX)] := hl
  refine lv_aload_n hx hb dL_warmest_0 rfl (lv_at hl 0 rfl) ?_
  refine wr_T S9 hLF (o_warmestMember_x l G cy kS vS a V u hl9 ho hO) (bigV 0 hts (big_at 22 22 rfl) (big_at 0 6 rfl) (big_at 23 1 rfl) (big_at 22 23 rfl) (big_at 23 0 rfl) rfl rfl (by decide +kernel) ⟨Nat.le_of_ble_eq_true rfl, Nat.le_of_ble_eq_true rfl⟩) hP hD hS hA rfl hl.1 rfl (Nat.le_of_ble_eq_true rfl) ⟨Nat.le_of_ble_eq_true rfl, Nat.le_of_ble_eq_true rfl⟩ dL_warmest_1 (tableOf []) ⟨0, 4, 5, 33⟩ (tableOf []) (htab.trans rfl) (by intro z hz; cases hz) (by decide) (by decide) (nwl hLF.2.2.1 (.classLink RL 33 xNSE) (by decide +kernel)) (hLF.2.2.1.2.2.1 (.castable xNSE xNSE) (by decide +kernel)) (fun H locs qx hP hD hS => ?_)
  refine lv_astore_n (lv' := [(1, .ref qx), (0, .ref a.aX)]) hx hb dL_warmest_5 rfl hl (by decide) rfl (fun ls hl => ?_)
  refine lv_bipush (v := (-13)) hx hb dL_warmest_6 (by decide) ?_
  exact lx_iret (ex := []) hx hb hr hlocks ⟨rfl, rfl⟩ hP hS (Nat.le_of_ble_eq_true rfl) (Nat.le_of_ble_eq_true rfl) dL_warmest_8
set_option maxRecDepth 100000 in
set_option maxHeartbeats 1000000 in
theorem q_coldest (l : Launch) (G : va_G) (cy : Nat → ClassId) (kS vS : Nat → Nat) (a : OA) (V : OV) (j : Nat) (ho : Ok V.σ) (hO : colO (vB V.σ) (hB V.σ) (mB V.σ) (nB V.σ) = some j) : LQ l yL_coldest 11 220 1 G cy kS vS a V V [.ref a.aX] (.int (nI j)) := by
  refine LX.ofWX (cc := cL_coldest) (maxL := 2) (ret := (some .int)) (hh := [(0, 4, 5, 33)]) (by decide) (big_at 23 8 rfl) (Nat.le_of_ble_eq_true rfl) ?_
  intro p e s m below meth cq u S9 hr hlocks htab hPQ hD hS hA ls hl
  obtain ⟨hx, hb, hml, hown, hts⟩ := id S9
  have hLF := LF.mk hPQ
  have hP := hPQ.1.1
  have hl : lv_has ls 2 [(0, .ref a.aX)] := hl
  refine lv_aload_n hx hb dL_coldest_0 rfl (lv_at hl 0 rfl) ?_
  refine wr_V S9 hLF (o_coldestMember l G cy kS vS a V u j ho hO) (bigV 0 hts (big_at 23 9 rfl) (big_at 0 6 rfl) (big_at 23 12 rfl) (big_at 23 10 rfl) (big_at 23 11 rfl) rfl rfl (by decide +kernel) ⟨Nat.le_of_ble_eq_true rfl, Nat.le_of_ble_eq_true rfl⟩) hP hD hS hA rfl hl.1 rfl (Nat.le_of_ble_eq_true rfl) ⟨Nat.zero_le _, Nat.zero_le _⟩ dL_coldest_1 (fun H locs hP hD hS => ?_)
  exact lx_iret (ex := []) hx hb hr hlocks ⟨rfl, rfl⟩ hP hS (Nat.zero_le _) (Nat.zero_le _) dL_coldest_4
set_option maxRecDepth 100000 in
set_option maxHeartbeats 1000000 in
theorem q_coldest_x (l : Launch) (G : va_G) (cy : Nat → ClassId) (kS vS : Nat → Nat) (a : OA) (V : OV)  (hl9 : l.stackTraces = false) (ho : Ok V.σ) (hO : colO (vB V.σ) (hB V.σ) (mB V.σ) (nB V.σ) = none) : LQ l yL_coldest 11 220 1 G cy kS vS a V V [.ref a.aX] (.int (-13)) := by
  refine LX.ofWX (cc := cL_coldest) (maxL := 2) (ret := (some .int)) (hh := [(0, 4, 5, 33)]) (by decide) (big_at 23 8 rfl) (Nat.le_of_ble_eq_true rfl) ?_
  intro p e s m below meth cq u S9 hr hlocks htab hPQ hD hS hA ls hl
  obtain ⟨hx, hb, hml, hown, hts⟩ := id S9
  have hLF := LF.mk hPQ
  have hP := hPQ.1.1
  have hl : lv_has ls 2 [(0, .ref a.aX)] := hl
  refine lv_aload_n hx hb dL_coldest_0 rfl (lv_at hl 0 rfl) ?_
  refine wr_T S9 hLF (o_coldestMember_x l G cy kS vS a V u hl9 ho hO) (bigV 0 hts (big_at 23 9 rfl) (big_at 0 6 rfl) (big_at 23 12 rfl) (big_at 23 10 rfl) (big_at 23 11 rfl) rfl rfl (by decide +kernel) ⟨Nat.le_of_ble_eq_true rfl, Nat.le_of_ble_eq_true rfl⟩) hP hD hS hA rfl hl.1 rfl (Nat.le_of_ble_eq_true rfl) ⟨Nat.le_of_ble_eq_true rfl, Nat.le_of_ble_eq_true rfl⟩ dL_coldest_1 (tableOf []) ⟨0, 4, 5, 33⟩ (tableOf []) (htab.trans rfl) (by intro z hz; cases hz) (by decide) (by decide) (nwl hLF.2.2.1 (.classLink RL 33 xNSE) (by decide +kernel)) (hLF.2.2.1.2.2.1 (.castable xNSE xNSE) (by decide +kernel)) (fun H locs qx hP hD hS => ?_)
  refine lv_astore_n (lv' := [(1, .ref qx), (0, .ref a.aX)]) hx hb dL_coldest_5 rfl hl (by decide) rfl (fun ls hl => ?_)
  refine lv_bipush (v := (-13)) hx hb dL_coldest_6 (by decide) ?_
  exact lx_iret (ex := []) hx hb hr hlocks ⟨rfl, rfl⟩ hP hS (Nat.le_of_ble_eq_true rfl) (Nat.le_of_ble_eq_true rfl) dL_coldest_8
set_option maxRecDepth 100000 in
set_option maxHeartbeats 1000000 in
theorem q_shared (l : Launch) (G : va_G) (cy : Nat → ClassId) (kS vS : Nat → Nat) (a : OA) (V : OV) (a9 : Nat) (b : Nat) (ho : Ok V.σ) (h2 : ¬ cntW (vB V.σ) (mB V.σ) (nB V.σ) < 2) (hO : hotO (vB V.σ) (hB V.σ) (mB V.σ) (nB V.σ) = some a9) (hC : colO (vB V.σ) (hB V.σ) (mB V.σ) (nB V.σ) = some b) : LQ l yL_shared 11 220 1 G cy kS vS a V V [.ref a.aX] (.int (units (vB V.σ) (hB V.σ) a9 b)) := by
  refine LX.ofWX (cc := cL_shared) (maxL := 2) (ret := (some .int)) (hh := [(0, 4, 5, 33)]) (by decide) (big_at 23 16 rfl) (Nat.le_of_ble_eq_true rfl) ?_
  intro p e s m below meth cq u S9 hr hlocks htab hPQ hD hS hA ls hl
  obtain ⟨hx, hb, hml, hown, hts⟩ := id S9
  have hLF := LF.mk hPQ
  have hP := hPQ.1.1
  have hl : lv_has ls 2 [(0, .ref a.aX)] := hl
  refine lv_aload_n hx hb dL_shared_0 rfl (lv_at hl 0 rfl) ?_
  refine wr_V S9 hLF (o_sharedHeat l G cy kS vS a V u a9 b ho h2 hO hC) (bigV 0 hts (big_at 23 17 rfl) (big_at 0 6 rfl) (big_at 23 20 rfl) (big_at 23 18 rfl) (big_at 23 19 rfl) rfl rfl (by decide +kernel) ⟨Nat.le_of_ble_eq_true rfl, Nat.le_of_ble_eq_true rfl⟩) hP hD hS hA rfl hl.1 rfl (Nat.le_of_ble_eq_true rfl) ⟨Nat.zero_le _, Nat.zero_le _⟩ dL_shared_1 (fun H locs hP hD hS => ?_)
  exact lx_iret (ex := []) hx hb hr hlocks ⟨rfl, rfl⟩ hP hS (Nat.zero_le _) (Nat.zero_le _) dL_shared_4
set_option maxRecDepth 100000 in
set_option maxHeartbeats 1000000 in
theorem q_shared_x (l : Launch) (G : va_G) (cy : Nat → ClassId) (kS vS : Nat → Nat) (a : OA) (V : OV)  (hl9 : l.stackTraces = false) (ho : Ok V.σ) (h2 : cntW (vB V.σ) (mB V.σ) (nB V.σ) < 2) : LQ l yL_shared 11 220 1 G cy kS vS a V V [.ref a.aX] (.int (-13)) := by
  refine LX.ofWX (cc := cL_shared) (maxL := 2) (ret := (some .int)) (hh := [(0, 4, 5, 33)]) (by decide) (big_at 23 16 rfl) (Nat.le_of_ble_eq_true rfl) ?_
  intro p e s m below meth cq u S9 hr hlocks htab hPQ hD hS hA ls hl
  obtain ⟨hx, hb, hml, hown, hts⟩ := id S9
  have hLF := LF.mk hPQ
  have hP := hPQ.1.1
  have hl : lv_has ls 2 [(0, .ref a.aX)] := hl
  refine lv_aload_n hx hb dL_shared_0 rfl (lv_at hl 0 rfl) ?_
  refine wr_T S9 hLF (o_sharedHeat_x l G cy kS vS a V u hl9 ho h2) (bigV 0 hts (big_at 23 17 rfl) (big_at 0 6 rfl) (big_at 23 20 rfl) (big_at 23 18 rfl) (big_at 23 19 rfl) rfl rfl (by decide +kernel) ⟨Nat.le_of_ble_eq_true rfl, Nat.le_of_ble_eq_true rfl⟩) hP hD hS hA rfl hl.1 rfl (Nat.le_of_ble_eq_true rfl) ⟨Nat.le_of_ble_eq_true rfl, Nat.le_of_ble_eq_true rfl⟩ dL_shared_1 (tableOf []) ⟨0, 4, 5, 33⟩ (tableOf []) (htab.trans rfl) (by intro z hz; cases hz) (by decide) (by decide) (nwl hLF.2.2.1 (.classLink RL 33 xNSE) (by decide +kernel)) (hLF.2.2.1.2.2.1 (.castable xNSE xNSE) (by decide +kernel)) (fun H locs qx hP hD hS => ?_)
  refine lv_astore_n (lv' := [(1, .ref qx), (0, .ref a.aX)]) hx hb dL_shared_5 rfl hl (by decide) rfl (fun ls hl => ?_)
  refine lv_bipush (v := (-13)) hx hb dL_shared_6 (by decide) ?_
  exact lx_iret (ex := []) hx hb hr hlocks ⟨rfl, rfl⟩ hP hS (Nat.le_of_ble_eq_true rfl) (Nat.le_of_ble_eq_true rfl) dL_shared_8
set_option maxRecDepth 100000 in
set_option maxHeartbeats 1000000 in
theorem q_until_1 (l : Launch) (G : va_G) (cy : Nat → ClassId) (kS vS : Nat → Nat) (a : OA) (V : OV) (b : Int32) (hl9 : l.stackTraces = false) (ho : Ok V.σ) (hF : ¬ inI b (nI (nB V.σ)) = true) : LQ l yL_until 11 220 1 G cy kS vS a V V [.ref a.aX, .int b] (.int (-11)) := by
  refine LX.ofWX (cc := cL_until) (maxL := 3) (ret := (some .int)) (hh := [(0, 5, 6, 20), (0, 5, 10, 14), (0, 5, 14, 33)]) (by decide) (big_at 25 4 rfl) (Nat.le_of_ble_eq_true rfl) ?_
  intro p e s m below meth cq u S9 hr hlocks htab hPQ hD hS hA ls hl
  obtain ⟨hx, hb, hml, hown, hts⟩ := id S9
  have hLF := LF.mk hPQ
  have hP := hPQ.1.1
  have hl : lv_has ls 3 [(0, .ref a.aX), (1, .int b)] := hl
  refine lv_aload_n hx hb dL_until_0 rfl (lv_at hl 0 rfl) ?_
  refine lv_iload_n hx hb dL_until_1 rfl (lv_at hl 1 rfl) ?_
  refine wr_T S9 hLF (o_ticksUntilDefection1 l G cy kS vS a V u b hl9 ho hF) (bigV 1 hts (big_at 25 5 rfl) (big_at 0 6 rfl) (big_at 25 8 rfl) (big_at 25 6 rfl) (big_at 25 7 rfl) rfl rfl (by decide +kernel) ⟨Nat.le_of_ble_eq_true rfl, Nat.le_of_ble_eq_true rfl⟩) hP hD hS hA rfl hl.1 rfl (Nat.le_of_ble_eq_true rfl) ⟨Nat.le_of_ble_eq_true rfl, Nat.le_of_ble_eq_true rfl⟩ dL_until_2 (tableOf []) ⟨0, 5, 6, 20⟩ (tableOf [(0, 5, 10, 14), (0, 5, 14, 33)]) (htab.trans rfl) (by intro z hz; cases hz) (by decide) (by decide) (nwl hLF.2.2.1 (.classLink RL 20 xIOB) (by decide +kernel)) (hLF.2.2.1.2.2.1 (.castable xIOB xIOB) (by decide +kernel)) (fun H locs qx hP hD hS => ?_)
  refine lv_astore_n (lv' := [(2, .ref qx), (0, .ref a.aX), (1, .int b)]) hx hb dL_until_6 rfl hl (by decide) rfl (fun ls hl => ?_)
  refine lv_bipush (v := (-11)) hx hb dL_until_7 (by decide) ?_
  exact lx_iret (ex := []) hx hb hr hlocks ⟨rfl, rfl⟩ hP hS (Nat.le_of_ble_eq_true rfl) (Nat.le_of_ble_eq_true rfl) dL_until_9
set_option maxRecDepth 100000 in
set_option maxHeartbeats 1000000 in
theorem q_until_2 (l : Launch) (G : va_G) (cy : Nat → ClassId) (kS vS : Nat → Nat) (a : OA) (V : OV) (j : Nat) (hl9 : l.stackTraces = false) (ho : Ok V.σ) (hj : j < nB V.σ) (hm9 : mB V.σ j = 0) : LQ l yL_until 11 220 1 G cy kS vS a V V [.ref a.aX, .int (nI j)] (.int (-14)) := by
  refine LX.ofWX (cc := cL_until) (maxL := 3) (ret := (some .int)) (hh := [(0, 5, 6, 20), (0, 5, 10, 14), (0, 5, 14, 33)]) (by decide) (big_at 25 4 rfl) (Nat.le_of_ble_eq_true rfl) ?_
  intro p e s m below meth cq u S9 hr hlocks htab hPQ hD hS hA ls hl
  obtain ⟨hx, hb, hml, hown, hts⟩ := id S9
  have hLF := LF.mk hPQ
  have hP := hPQ.1.1
  have hl : lv_has ls 3 [(0, .ref a.aX), (1, .int (nI j))] := hl
  refine lv_aload_n hx hb dL_until_0 rfl (lv_at hl 0 rfl) ?_
  refine lv_iload_n hx hb dL_until_1 rfl (lv_at hl 1 rfl) ?_
  refine wr_T S9 hLF (o_ticksUntilDefection2 l G cy kS vS a V u j hl9 ho hj hm9) (bigV 1 hts (big_at 25 5 rfl) (big_at 0 6 rfl) (big_at 25 8 rfl) (big_at 25 6 rfl) (big_at 25 7 rfl) rfl rfl (by decide +kernel) ⟨Nat.le_of_ble_eq_true rfl, Nat.le_of_ble_eq_true rfl⟩) hP hD hS hA rfl hl.1 rfl (Nat.le_of_ble_eq_true rfl) ⟨Nat.le_of_ble_eq_true rfl, Nat.le_of_ble_eq_true rfl⟩ dL_until_2 (tableOf [(0, 5, 6, 20)]) ⟨0, 5, 10, 14⟩ (tableOf [(0, 5, 14, 33)]) (htab.trans rfl) (by intro z hz; simp only [tableOf, List.map_cons, List.map_nil, List.mem_cons, List.not_mem_nil, or_false] at hz; rcases hz with rfl <;> first | exact Or.inr ⟨by decide, xIOB, nwl hLF.2.2.1 (.classLink RL 20 xIOB) (by decide +kernel), hLF.2.2.1.2.2.2.2 (xISE, xIOB) (by decide +kernel)⟩) (by decide) (by decide) (nwl hLF.2.2.1 (.classLink RL 14 xISE) (by decide +kernel)) (hLF.2.2.1.2.2.1 (.castable xISE xISE) (by decide +kernel)) (fun H locs qx hP hD hS => ?_)
  refine lv_astore_n (lv' := [(2, .ref qx), (0, .ref a.aX), (1, .int (nI j))]) hx hb dL_until_10 rfl hl (by decide) rfl (fun ls hl => ?_)
  refine lv_bipush (v := (-14)) hx hb dL_until_11 (by decide) ?_
  exact lx_iret (ex := []) hx hb hr hlocks ⟨rfl, rfl⟩ hP hS (Nat.le_of_ble_eq_true rfl) (Nat.le_of_ble_eq_true rfl) dL_until_13
set_option maxRecDepth 100000 in
set_option maxHeartbeats 1000000 in
theorem q_until (l : Launch) (G : va_G) (cy : Nat → ClassId) (kS vS : Nat → Nat) (a : OA) (V : OV) (j : Nat) (n9 : Nat) (ho : Ok V.σ) (hj : j < nB V.σ) (hm9 : ¬ mB V.σ j = 0) (hn9 : n9 < 1000) (hR0 : atF (fun k9 => mB (tickN V.σ k9) j) 0 1 60 = nI n9) : LQ l yL_until 11 220 1 G cy kS vS a V V [.ref a.aX, .int (nI j)] (.int (nI n9)) := by
  refine LX.ofWX (cc := cL_until) (maxL := 3) (ret := (some .int)) (hh := [(0, 5, 6, 20), (0, 5, 10, 14), (0, 5, 14, 33)]) (by decide) (big_at 25 4 rfl) (Nat.le_of_ble_eq_true rfl) ?_
  intro p e s m below meth cq u S9 hr hlocks htab hPQ hD hS hA ls hl
  obtain ⟨hx, hb, hml, hown, hts⟩ := id S9
  have hLF := LF.mk hPQ
  have hP := hPQ.1.1
  have hl : lv_has ls 3 [(0, .ref a.aX), (1, .int (nI j))] := hl
  refine lv_aload_n hx hb dL_until_0 rfl (lv_at hl 0 rfl) ?_
  refine lv_iload_n hx hb dL_until_1 rfl (lv_at hl 1 rfl) ?_
  refine wr_V S9 hLF (o_ticksUntilDefection l G cy kS vS a V u j n9 ho hj hm9 hn9 hR0) (bigV 1 hts (big_at 25 5 rfl) (big_at 0 6 rfl) (big_at 25 8 rfl) (big_at 25 6 rfl) (big_at 25 7 rfl) rfl rfl (by decide +kernel) ⟨Nat.le_of_ble_eq_true rfl, Nat.le_of_ble_eq_true rfl⟩) hP hD hS hA rfl hl.1 rfl (Nat.le_of_ble_eq_true rfl) ⟨Nat.zero_le _, Nat.zero_le _⟩ dL_until_2 (fun H locs hP hD hS => ?_)
  exact lx_iret (ex := []) hx hb hr hlocks ⟨rfl, rfl⟩ hP hS (Nat.zero_le _) (Nat.zero_le _) dL_until_5
set_option maxRecDepth 100000 in
set_option maxHeartbeats 1000000 in
theorem q_until_3 (l : Launch) (G : va_G) (cy : Nat → ClassId) (kS vS : Nat → Nat) (a : OA) (V : OV) (j : Nat) (hl9 : l.stackTraces = false) (ho : Ok V.σ) (hj : j < nB V.σ) (hm9 : ¬ mB V.σ j = 0) (hR0 : atF (fun k9 => mB (tickN V.σ k9) j) 0 1 60 = -1) : LQ l yL_until 11 220 1 G cy kS vS a V V [.ref a.aX, .int (nI j)] (.int (-13)) := by
  refine LX.ofWX (cc := cL_until) (maxL := 3) (ret := (some .int)) (hh := [(0, 5, 6, 20), (0, 5, 10, 14), (0, 5, 14, 33)]) (by decide) (big_at 25 4 rfl) (Nat.le_of_ble_eq_true rfl) ?_
  intro p e s m below meth cq u S9 hr hlocks htab hPQ hD hS hA ls hl
  obtain ⟨hx, hb, hml, hown, hts⟩ := id S9
  have hLF := LF.mk hPQ
  have hP := hPQ.1.1
  have hl : lv_has ls 3 [(0, .ref a.aX), (1, .int (nI j))] := hl
  refine lv_aload_n hx hb dL_until_0 rfl (lv_at hl 0 rfl) ?_
  refine lv_iload_n hx hb dL_until_1 rfl (lv_at hl 1 rfl) ?_
  refine wr_T S9 hLF (o_ticksUntilDefection3 l G cy kS vS a V u j hl9 ho hj hm9 hR0) (bigV 1 hts (big_at 25 5 rfl) (big_at 0 6 rfl) (big_at 25 8 rfl) (big_at 25 6 rfl) (big_at 25 7 rfl) rfl rfl (by decide +kernel) ⟨Nat.le_of_ble_eq_true rfl, Nat.le_of_ble_eq_true rfl⟩) hP hD hS hA rfl hl.1 rfl (Nat.le_of_ble_eq_true rfl) ⟨Nat.le_of_ble_eq_true rfl, Nat.le_of_ble_eq_true rfl⟩ dL_until_2 (tableOf [(0, 5, 6, 20), (0, 5, 10, 14)]) ⟨0, 5, 14, 33⟩ (tableOf []) (htab.trans rfl) (by intro z hz; simp only [tableOf, List.map_cons, List.map_nil, List.mem_cons, List.not_mem_nil, or_false] at hz; rcases hz with rfl | rfl <;> first | exact Or.inr ⟨by decide, xIOB, nwl hLF.2.2.1 (.classLink RL 20 xIOB) (by decide +kernel), hLF.2.2.1.2.2.2.2 (xNSE, xIOB) (by decide +kernel)⟩ | exact Or.inr ⟨by decide, xISE, nwl hLF.2.2.1 (.classLink RL 14 xISE) (by decide +kernel), hLF.2.2.1.2.2.2.2 (xNSE, xISE) (by decide +kernel)⟩) (by decide) (by decide) (nwl hLF.2.2.1 (.classLink RL 33 xNSE) (by decide +kernel)) (hLF.2.2.1.2.2.1 (.castable xNSE xNSE) (by decide +kernel)) (fun H locs qx hP hD hS => ?_)
  refine lv_astore_n (lv' := [(2, .ref qx), (0, .ref a.aX), (1, .int (nI j))]) hx hb dL_until_14 rfl hl (by decide) rfl (fun ls hl => ?_)
  refine lv_bipush (v := (-13)) hx hb dL_until_15 (by decide) ?_
  exact lx_iret (ex := []) hx hb hr hlocks ⟨rfl, rfl⟩ hP hS (Nat.le_of_ble_eq_true rfl) (Nat.le_of_ble_eq_true rfl) dL_until_17
