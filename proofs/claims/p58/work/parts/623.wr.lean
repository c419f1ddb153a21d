/-! the law's methods that ask once, 2 -/
set_option maxRecDepth 100000 in
set_option maxHeartbeats 1000000 in
theorem q_heatAfter (l : Launch) (G : va_G) (cy : Nat → ClassId) (kS vS : Nat → Nat) (a : OA) (V : OV) (j : Nat) (n : Nat) (ho : Ok V.σ) (hj : j < nB V.σ) (hn : n < 1000) (hn6 : n ≤ 60) : LQ l yL_heatAfter 11 220 1 G cy kS vS a V V [.ref a.aX, .int (nI j), .int (nI n)] (.int (hB (tickN V.σ n) j)) := by
  refine LX.ofWX (cc := cL_heatAfter) (maxL := 4) (ret := (some .int)) (hh := [(0, 6, 7, 20), (0, 6, 11, 22)]) (by decide) (big_at 24 20 rfl) (Nat.le_of_ble_eq_true rfl) ?_
  intro p e s m below meth cq u S9 hr hlocks htab hPQ hD hS hA ls hl
  obtain ⟨hx, hb, hml, hown, hts⟩ := id S9
  have hLF := LF.mk hPQ
  have hP := hPQ.1.1
  have hl : lv_has ls 4 [(0, .ref a.aX), (1, .int (nI j)), (2, .int (nI n))] := hl
  refine lv_aload_n hx hb dL_heatAfter_0 rfl (lv_at hl 0 rfl) ?_
  refine lv_iload_n hx hb dL_heatAfter_1 rfl (lv_at hl 1 rfl) ?_
  refine lv_iload_n hx hb dL_heatAfter_2 rfl (lv_at hl 2 rfl) ?_
  refine wr_V S9 hLF (o_heatAfter l G cy kS vS a V u j n ho hj hn hn6) (bigV 2 hts (big_at 24 21 rfl) (big_at 0 6 rfl) (big_at 25 0 rfl) (big_at 24 22 rfl) (big_at 24 23 rfl) rfl rfl (by decide +kernel) ⟨Nat.le_of_ble_eq_true rfl, Nat.le_of_ble_eq_true rfl⟩) hP hD hS hA rfl hl.1 rfl (Nat.le_of_ble_eq_true rfl) ⟨Nat.zero_le _, Nat.zero_le _⟩ dL_heatAfter_3 (fun H locs hP hD hS => ?_)
  exact lx_iret (ex := []) hx hb hr hlocks ⟨rfl, rfl⟩ hP hS (Nat.zero_le _) (Nat.zero_le _) dL_heatAfter_6
set_option maxRecDepth 100000 in
set_option maxHeartbeats 1000000 in
theorem q_heatAfter_1 (l : Launch) (G : va_G) (cy : Nat → ClassId) (kS vS : Nat → Nat) (a : OA) (V : OV) (b : Int32) (t : Int32) (hl9 : l.stackTraces = false) (ho : Ok V.σ) (hF : ¬ inI b (nI (nB V.σ)) = true) : LQ l yL_heatAfter 11 220 1 G cy kS vS a V V [.ref a.aX, .int b, .int t] (.int (-11)) := by
  refine LX.ofWX (cc := cL_heatAfter) (maxL := 4) (ret := (some .int)) (hh := [(0, 6, 7, 20), (0, 6, 11, 22)]) (by decide) (big_at 24 20 rfl) (Nat.le_of_ble_eq_true rfl) ?_
  intro p e s m below meth cq u S9 hr hlocks htab hPQ hD hS hA ls hl
  obtain ⟨hx, hb, hml, hown, hts⟩ := id S9
  have hLF := LF.mk hPQ
  have hP := hPQ.1.1
  have hl : lv_has ls 4 [(0, .ref a.aX), (1, .int b), (2, .int t)] := hl
  refine lv_aload_n hx hb dL_heatAfter_0 rfl (lv_at hl 0 rfl) ?_
  refine lv_iload_n hx hb dL_heatAfter_1 rfl (lv_at hl 1 rfl) ?_
  refine lv_iload_n hx hb dL_heatAfter_2 rfl (lv_at hl 2 rfl) ?_
  refine wr_T S9 hLF (o_heatAfter1 l G cy kS vS a V u b t hl9 ho hF) (bigV 2 hts (big_at 24 21 rfl) (big_at 0 6 rfl) (big_at 25 0 rfl) (big_at 24 22 rfl) (big_at 24 23 rfl) rfl rfl (by decide +kernel) ⟨Nat.le_of_ble_eq_true rfl, Nat.le_of_ble_eq_true rfl⟩) hP hD hS hA rfl hl.1 rfl (Nat.le_of_ble_eq_true rfl) ⟨Nat.le_of_ble_eq_true rfl, Nat.le_of_ble_eq_true rfl⟩ dL_heatAfter_3 (tableOf []) ⟨0, 6, 7, 20⟩ (tableOf [(0, 6, 11, 22)]) (htab.trans rfl) (by intro z hz; cases hz) (by decide) (by decide) (nwl hLF.2.2.1 (.classLink RL 20 xIOB) (by decide +kernel)) (hLF.2.2.1.2.2.1 (.castable xIOB xIOB) (by decide +kernel)) (fun H locs qx hP hD hS => ?_)
  refine lv_astore_n (lv' := [(3, .ref qx), (0, .ref a.aX), (1, .int b), (2, .int t)]) hx hb dL_heatAfter_7 rfl hl (by decide) rfl (fun ls hl => ?_)
  refine lv_bipush (v := (-11)) hx hb dL_heatAfter_8 (by decide) ?_
  exact lx_iret (ex := []) hx hb hr hlocks ⟨rfl, rfl⟩ hP hS (Nat.le_of_ble_eq_true rfl) (Nat.le_of_ble_eq_true rfl) dL_heatAfter_10
set_option maxRecDepth 100000 in
set_option maxHeartbeats 1000000 in
theorem q_heatAfter_2 (l : Launch) (G : va_G) (cy : Nat → ClassId) (kS vS : Nat → Nat) (a : OA) (V : OV) (j : Nat) (t : Int32) (hl9 : l.stackTraces = false) (ho : Ok V.σ) (hj : j < nB V.σ) (hn6 : ¬ inR t 0 60 = true) : LQ l yL_heatAfter 11 220 1 G cy kS vS a V V [.ref a.aX, .int (nI j), .int t] (.int (-12)) := by
  refine LX.ofWX (cc := cL_heatAfter) (maxL := 4) (ret := (some .int)) (hh := [(0, 6, 7, 20), (0, 6, 11, 22)]) (by decide) (big_at 24 20 rfl) (Nat.le_of_ble_eq_true rfl) ?_
  intro p e s m below meth cq u S9 hr hlocks htab hPQ hD hS hA ls hl
  obtain ⟨hx, hb, hml, hown, hts⟩ := id S9
  have hLF := LF.mk hPQ
  have hP := hPQ.1.1
  have hl : lv_has ls 4 [(0, .ref a.aX), (1, .int (nI j)), (2, .int t)] := hl
  refine lv_aload_n hx hb dL_heatAfter_0 rfl (lv_at hl 0 rfl) ?_
  refine lv_iload_n hx hb dL_heatAfter_1 rfl (lv_at hl 1 rfl) ?_
  refine lv_iload_n hx hb dL_heatAfter_2 rfl (lv_at hl 2 rfl) ?_
  refine wr_T S9 hLF (o_heatAfter2 l G cy kS vS a V u j t hl9 ho hj hn6) (bigV 2 hts (big_at 24 21 rfl) (big_at 0 6 rfl) (big_at 25 0 rfl) (big_at 24 22 rfl) (big_at 24 23 rfl) rfl rfl (by decide +kernel) ⟨Nat.le_of_ble_eq_true rfl, Nat.le_of_ble_eq_true rfl⟩) hP hD hS hA rfl hl.1 rfl (Nat.le_of_ble_eq_true rfl) ⟨Nat.le_of_ble_eq_true rfl, Nat.le_of_ble_eq_true rfl⟩ dL_heatAfter_3 (tableOf [(0, 6, 7, 20)]) ⟨0, 6, 11, 22⟩ (tableOf []) (htab.trans rfl) (by intro z hz; simp only [tableOf, List.map_cons, List.map_nil, List.mem_cons, List.not_mem_nil, or_false] at hz; rcases hz with rfl <;> first | exact Or.inr ⟨by decide, xIOB, nwl hLF.2.2.1 (.classLink RL 20 xIOB) (by decide +kernel), hLF.2.2.1.2.2.2.2 (xIAE, xIOB) (by decide +kernel)⟩) (by decide) (by decide) (nwl hLF.2.2.1 (.classLink RL 22 xIAE) (by decide +kernel)) (hLF.2.2.1.2.2.1 (.castable xIAE xIAE) (by decide +kernel)) (fun H locs qx hP hD hS => ?_)
  refine lv_astore_n (lv' := [(3, .ref qx), (0, .ref a.aX), (1, .int (nI j)), (2, .int t)]) hx hb dL_heatAfter_11 rfl hl (by decide) rfl (fun ls hl => ?_)
  refine lv_bipush (v := (-12)) hx hb dL_heatAfter_12 (by decide) ?_
  exact lx_iret (ex := []) hx hb hr hlocks ⟨rfl, rfl⟩ hP hS (Nat.le_of_ble_eq_true rfl) (Nat.le_of_ble_eq_true rfl) dL_heatAfter_14
set_option maxRecDepth 100000 in
set_option maxHeartbeats 1000000 in
theorem q_observed (l : Launch) (G : va_G) (cy : Nat → ClassId) (kS vS : Nat → Nat) (a : OA) (V : OV) (j : Nat) (ho : Ok V.σ) (hj : j < nD V.σ) : LQ l yL_observed 11 220 1 G cy kS vS a V V [.ref a.aX, .int (nI j)] (.int (bD V.σ j)) := by
  refine LX.ofWX (cc := cL_observed) (maxL := 3) (ret := (some .int)) (hh := [(0, 5, 6, 20)]) (by decide) (big_at 26 11 rfl) (Nat.le_of_ble_eq_true rfl) ?_
  intro p e s m below meth cq u S9 hr hlocks htab hPQ hD hS hA ls hl
  obtain ⟨hx, hb, hml, hown, hts⟩ := id S9
  have hLF := LF.mk hPQ
  have hP := hPQ.1.1
  have hl : lv_has ls 3 [(0, .ref a.aX), (1, .int (nI j))] := hl
  refine lv_aload_n hx hb dL_observed_0 rfl (lv_at hl 0 rfl) ?_
  refine lv_iload_n hx hb dL_observed_1 rfl (lv_at hl 1 rfl) ?_
  refine wr_V S9 hLF (o_observedBath l G cy kS vS a V u j ho hj) (bigV 1 hts (big_at 26 12 rfl) (big_at 0 6 rfl) (big_at 26 15 rfl) (big_at 26 13 rfl) (big_at 26 14 rfl) rfl rfl (by decide +kernel) ⟨Nat.le_of_ble_eq_true rfl, Nat.le_of_ble_eq_true rfl⟩) hP hD hS hA rfl hl.1 rfl (Nat.le_of_ble_eq_true rfl) ⟨Nat.zero_le _, Nat.zero_le _⟩ dL_observed_2 (fun H locs hP hD hS => ?_)
  exact lx_iret (ex := []) hx hb hr hlocks ⟨rfl, rfl⟩ hP hS (Nat.zero_le _) (Nat.zero_le _) dL_observed_5
set_option maxRecDepth 100000 in
set_option maxHeartbeats 1000000 in
theorem q_observed_x (l : Launch) (G : va_G) (cy : Nat → ClassId) (kS vS : Nat → Nat) (a : OA) (V : OV) (b : Int32) (hl9 : l.stackTraces = false) (ho : Ok V.σ) (hF : ¬ inI b (nI (nD V.σ)) = true) : LQ l yL_observed 11 220 1 G cy kS vS a V V [.ref a.aX, .int b] (.int (-11)) := by
  refine LX.ofWX (cc := cL_observed) (maxL := 3) (ret := (some .int)) (hh := [(0, 5, 6, 20)]) (by decide) (big_at 26 11 rfl) (Nat.le_of_ble_eq_true rfl) ?_
  intro p e s m below meth cq u S9 hr hlocks htab hPQ hD hS hA ls hl
  obtain ⟨hx, hb, hml, hown, hts⟩ := id S9
  have hLF := LF.mk hPQ
  have hP := hPQ.1.1
  have hl : lv_has ls 3 [(0, .ref a.aX), (1, .int b)] := hl
  refine lv_aload_n hx hb dL_observed_0 rfl (lv_at hl 0 rfl) ?_
  refine lv_iload_n hx hb dL_observed_1 rfl (lv_at hl 1 rfl) ?_
  refine wr_T S9 hLF (o_observedBath_x l G cy kS vS a V u b hl9 ho hF) (bigV 1 hts (big_at 26 12 rfl) (big_at 0 6 rfl) (big_at 26 15 rfl) (big_at 26 13 rfl) (big_at 26 14 rfl) rfl rfl (by decide +kernel) ⟨Nat.le_of_ble_eq_true rfl, Nat.le_of_ble_eq_true rfl⟩) hP hD hS hA rfl hl.1 rfl (Nat.le_of_ble_eq_true rfl) ⟨Nat.le_of_ble_eq_true rfl, Nat.le_of_ble_eq_true rfl⟩ dL_observed_2 (tableOf []) ⟨0, 5, 6, 20⟩ (tableOf []) (htab.trans rfl) (by intro z hz; cases hz) (by decide) (by decide) (nwl hLF.2.2.1 (.classLink RL 20 xIOB) (by decide +kernel)) (hLF.2.2.1.2.2.1 (.castable xIOB xIOB) (by decide +kernel)) (fun H locs qx hP hD hS => ?_)
  refine lv_astore_n (lv' := [(2, .ref qx), (0, .ref a.aX), (1, .int b)]) hx hb dL_observed_6 rfl hl (by decide) rfl (fun ls hl => ?_)
  refine lv_bipush (v := (-11)) hx hb dL_observed_7 (by decide) ?_
  exact lx_iret (ex := []) hx hb hr hlocks ⟨rfl, rfl⟩ hP hS (Nat.le_of_ble_eq_true rfl) (Nat.le_of_ble_eq_true rfl) dL_observed_9
set_option maxRecDepth 100000 in
set_option maxHeartbeats 1000000 in
theorem q_lower (l : Launch) (G : va_G) (cy : Nat → ClassId) (kS vS : Nat → Nat) (a : OA) (V : OV) (j : Nat) (ho : Ok V.σ) (hj : j < nD V.σ) : LQ l yL_lower 11 220 1 G cy kS vS a V V [.ref a.aX, .int (nI j)] (.int (lD V.σ j)) := by
  refine LX.ofWX (cc := cL_lower) (maxL := 3) (ret := (some .int)) (hh := [(0, 5, 6, 20)]) (by decide) (big_at 26 23 rfl) (Nat.le_of_ble_eq_true rfl) ?_
  intro p e s m below meth cq u S9 hr hlocks htab hPQ hD hS hA ls hl
  obtain ⟨hx, hb, hml, hown, hts⟩ := id S9
  have hLF := LF.mk hPQ
  have hP := hPQ.1.1
  have hl : lv_has ls 3 [(0, .ref a.aX), (1, .int (nI j))] := hl
  refine lv_aload_n hx hb dL_lower_0 rfl (lv_at hl 0 rfl) ?_
  refine lv_iload_n hx hb dL_lower_1 rfl (lv_at hl 1 rfl) ?_
  refine wr_V S9 hLF (o_lowerBound l G cy kS vS a V u j ho hj) (bigV 1 hts (big_at 27 0 rfl) (big_at 0 6 rfl) (big_at 27 3 rfl) (big_at 27 1 rfl) (big_at 27 2 rfl) rfl rfl (by decide +kernel) ⟨Nat.le_of_ble_eq_true rfl, Nat.le_of_ble_eq_true rfl⟩) hP hD hS hA rfl hl.1 rfl (Nat.le_of_ble_eq_true rfl) ⟨Nat.zero_le _, Nat.zero_le _⟩ dL_lower_2 (fun H locs hP hD hS => ?_)
  exact lx_iret (ex := []) hx hb hr hlocks ⟨rfl, rfl⟩ hP hS (Nat.zero_le _) (Nat.zero_le _) dL_lower_5
set_option maxRecDepth 100000 in
set_option maxHeartbeats 1000000 in
theorem q_lower_x (l : Launch) (G : va_G) (cy : Nat → ClassId) (kS vS : Nat → Nat) (a : OA) (V : OV) (b : Int32) (hl9 : l.stackTraces = false) (ho : Ok V.σ) (hF : ¬ inI b (nI (nD V.σ)) = true) : LQ l yL_lower 11 220 1 G cy kS vS a V V [.ref a.aX, .int b] (.int (-11)) := by
  refine LX.ofWX (cc := cL_lower) (maxL := 3) (ret := (some .int)) (hh := [(0, 5, 6, 20)]) (by decide) (big_at 26 23 rfl) (Nat.le_of_ble_eq_true rfl) ?_
  intro p e s m below meth cq u S9 hr hlocks htab hPQ hD hS hA ls hl
  obtain ⟨hx, hb, hml, hown, hts⟩ := id S9
  have hLF := LF.mk hPQ
  have hP := hPQ.1.1
  have hl : lv_has ls 3 [(0, .ref a.aX), (1, .int b)] := hl
  refine lv_aload_n hx hb dL_lower_0 rfl (lv_at hl 0 rfl) ?_
  refine lv_iload_n hx hb dL_lower_1 rfl (lv_at hl 1 rfl) ?_
  refine wr_T S9 hLF (o_lowerBound_x l G cy kS vS a V u b hl9 ho hF) (bigV 1 hts (big_at 27 0 rfl) (big_at 0 6 rfl) (big_at 27 3 rfl) (big_at 27 1 rfl) (big_at 27 2 rfl) rfl rfl (by decide +kernel) ⟨Nat.le_of_ble_eq_true rfl, Nat.le_of_ble_eq_true rfl⟩) hP hD hS hA rfl hl.1 rfl (Nat.le_of_ble_eq_true rfl) ⟨Nat.le_of_ble_eq_true rfl, Nat.le_of_ble_eq_true rfl⟩ dL_lower_2 (tableOf []) ⟨0, 5, 6, 20⟩ (tableOf []) (htab.trans rfl) (by intro z hz; cases hz) (by decide) (by decide) (nwl hLF.2.2.1 (.classLink RL 20 xIOB) (by decide +kernel)) (hLF.2.2.1.2.2.1 (.castable xIOB xIOB) (by decide +kernel)) (fun H locs qx hP hD hS => ?_)
  refine lv_astore_n (lv' := [(2, .ref qx), (0, .ref a.aX), (1, .int b)]) hx hb dL_lower_6 rfl hl (by decide) rfl (fun ls hl => ?_)
  refine lv_bipush (v := (-11)) hx hb dL_lower_7 (by decide) ?_
  exact lx_iret (ex := []) hx hb hr hlocks ⟨rfl, rfl⟩ hP hS (Nat.le_of_ble_eq_true rfl) (Nat.le_of_ble_eq_true rfl) dL_lower_9
set_option maxRecDepth 100000 in
set_option maxHeartbeats 1000000 in
theorem q_upper (l : Launch) (G : va_G) (cy : Nat → ClassId) (kS vS : Nat → Nat) (a : OA) (V : OV) (j : Nat) (ho : Ok V.σ) (hj : j < nD V.σ) : LQ l yL_upper 11 220 1 G cy kS vS a V V [.ref a.aX, .int (nI j)] (.int (uD V.σ j)) := by
  refine LX.ofWX (cc := cL_upper) (maxL := 3) (ret := (some .int)) (hh := [(0, 5, 6, 20)]) (by decide) (big_at 27 7 rfl) (Nat.le_of_ble_eq_true rfl) ?_
  intro p e s m below meth cq u S9 hr hlocks htab hPQ hD hS hA ls hl
  obtain ⟨hx, hb, hml, hown, hts⟩ := id S9
  have hLF := LF.mk hPQ
  have hP := hPQ.1.1
  have hl : lv_has ls 3 [(0, .ref a.aX), (1, .int (nI j))] := hl
  refine lv_aload_n hx hb dL_upper_0 rfl (lv_at hl 0 rfl) ?_
  refine lv_iload_n hx hb dL_upper_1 rfl (lv_at hl 1 rfl) ?_
  refine wr_V S9 hLF (o_upperBound l G cy kS vS a V u j ho hj) (bigV 1 hts (big_at 27 8 rfl) (big_at 0 6 rfl) (big_at 27 11 rfl) (big_at 27 9 rfl) (big_at 27 10 rfl) rfl rfl (by decide +kernel) ⟨Nat.le_of_ble_eq_true rfl, Nat.le_of_ble_eq_true rfl⟩) hP hD hS hA rfl hl.1 rfl (Nat.le_of_ble_eq_true rfl) ⟨Nat.zero_le _, Nat.zero_le _⟩ dL_upper_2 (fun H locs hP hD hS => ?_)
  exact lx_iret (ex := []) hx hb hr hlocks ⟨rfl, rfl⟩ hP hS (Nat.zero_le _) (Nat.zero_le _) dL_upper_5
set_option maxRecDepth 100000 in
set_option maxHeartbeats 1000000 in
theorem q_upper_x (l : Launch) (G : va_G) (cy : Nat → ClassId) (kS vS : Nat → Nat) (a : OA) (V : OV) (b : Int32) (hl9 : l.stackTraces = false) (ho : Ok V.σ) (hF : ¬ inI b (nI (nD V.σ)) = true) : LQ l yL_upper 11 220 1 G cy kS vS a V V [.ref a.aX, .int b] (.int (-11)) := by
  refine LX.ofWX (cc := cL_upper) (maxL := 3) (ret := (some .int)) (hh := [(0, 5, 6, 20)]) (by decide) (big_at 27 7 rfl) (Nat.le_of_ble_eq_true rfl) ?_
  intro p e s m below meth cq u S9 hr hlocks htab hPQ hD hS hA ls hl
  obtain ⟨hx, hb, hml, hown, hts⟩ := id S9
  have hLF := LF.mk hPQ
  have hP := hPQ.1.1
  have hl : lv_has ls 3 [(0, .ref a.aX), (1, .int b)] := hl
  refine lv_aload_n hx hb dL_upper_0 rfl (lv_at hl 0 rfl) ?_
  refine lv_iload_n hx hb dL_upper_1 rfl (lv_at hl 1 rfl) ?_
  refine wr_T S9 hLF (o_upperBound_x l G cy kS vS a V u b hl9 ho hF) (bigV 1 hts (big_at 27 8 rfl) (big_at 0 6 rfl) (big_at 27 11 rfl) (big_at 27 9 rfl) (big_at 27 10 rfl) rfl rfl (by decide +kernel) ⟨Nat.le_of_ble_eq_true rfl, Nat.le_of_ble_eq_true rfl⟩) hP hD hS hA rfl hl.1 rfl (Nat.le_of_ble_eq_true rfl) ⟨Nat.le_of_ble_eq_true rfl, Nat.le_of_ble_eq_true rfl⟩ dL_upper_2 (tableOf []) ⟨0, 5, 6, 20⟩ (tableOf []) (htab.trans rfl) (by intro z hz; cases hz) (by decide) (by decide) (nwl hLF.2.2.1 (.classLink RL 20 xIOB) (by decide +kernel)) (hLF.2.2.1.2.2.1 (.castable xIOB xIOB) (by decide +kernel)) (fun H locs qx hP hD hS => ?_)
  refine lv_astore_n (lv' := [(2, .ref qx), (0, .ref a.aX), (1, .int b)]) hx hb dL_upper_6 rfl hl (by decide) rfl (fun ls hl => ?_)
  refine lv_bipush (v := (-11)) hx hb dL_upper_7 (by decide) ?_
  exact lx_iret (ex := []) hx hb hr hlocks ⟨rfl, rfl⟩ hP hS (Nat.le_of_ble_eq_true rfl) (Nat.le_of_ble_eq_true rfl) dL_upper_9
set_option maxRecDepth 100000 in
set_option maxHeartbeats 1000000 in
theorem q_isContent (l : Launch) (G : va_G) (cy : Nat → ClassId) (kS vS : Nat → Nat) (a : OA) (V : OV) (j : Nat) (ho : Ok V.σ) (hj : j < nD V.σ) : LQ l yL_isContent 11 220 1 G cy kS vS a V V [.ref a.aX, .int (nI j)] (.int (bz (if plS V.σ j = true then 1 else 0))) := by
  refine LX.ofWX (cc := cL_isContent) (maxL := 3) (ret := (some .int)) (hh := [(0, 13, 14, 20)]) (by decide) (big_at 27 15 rfl) (Nat.le_of_ble_eq_true rfl) ?_
  intro p e s m below meth cq u S9 hr hlocks htab hPQ hD hS hA ls hl
  obtain ⟨hx, hb, hml, hown, hts⟩ := id S9
  have hLF := LF.mk hPQ
  have hP := hPQ.1.1
  have hl : lv_has ls 3 [(0, .ref a.aX), (1, .int (nI j))] := hl
  refine lv_aload_n hx hb dL_isContent_0 rfl (lv_at hl 0 rfl) ?_
  refine lv_iload_n hx hb dL_isContent_1 rfl (lv_at hl 1 rfl) ?_
  refine wr_V S9 hLF (o_isContent l G cy kS vS a V u j ho hj) (bigV 1 hts (big_at 27 16 rfl) (big_at 0 6 rfl) (big_at 27 19 rfl) (big_at 27 17 rfl) (big_at 27 18 rfl) rfl rfl (by decide +kernel) ⟨Nat.le_of_ble_eq_true rfl, Nat.le_of_ble_eq_true rfl⟩) hP hD hS hA rfl hl.1 rfl (Nat.le_of_ble_eq_true rfl) ⟨Nat.zero_le _, Nat.zero_le _⟩ dL_isContent_2 (fun H locs hP hD hS => ?_)
  refine lv_if_eq (tgt := 12) hx hb dL_isContent_5 (by decide) (fun c9 => ?_) (fun c9 => ?_)
  · refine lv_iconst (v := 0) hx hb dL_isContent_12 (by decide) ?_
    exact lx_iret (ex := []) hx hb hr hlocks ⟨rfl, congrArg Value.int (show (0 : Int32) = bz (if plS V.σ j = true then 1 else 0) from (if_pos c9).symm).symm.symm⟩ hP hS (Nat.zero_le _) (Nat.zero_le _) dL_isContent_13
  · refine lv_iconst (v := 1) hx hb dL_isContent_8 (by decide) ?_
    refine lv_goto (tgt := 13) hx hb dL_isContent_9 (by decide) ?_
    exact lx_iret (ex := []) hx hb hr hlocks ⟨rfl, congrArg Value.int (show (1 : Int32) = bz (if plS V.σ j = true then 1 else 0) from (if_neg c9).symm).symm.symm⟩ hP hS (Nat.zero_le _) (Nat.zero_le _) dL_isContent_13
set_option maxRecDepth 100000 in
set_option maxHeartbeats 1000000 in
theorem q_isContent_x (l : Launch) (G : va_G) (cy : Nat → ClassId) (kS vS : Nat → Nat) (a : OA) (V : OV) (b : Int32) (hl9 : l.stackTraces = false) (ho : Ok V.σ) (hF : ¬ inI b (nI (nD V.σ)) = true) : LQ l yL_isContent 11 220 1 G cy kS vS a V V [.ref a.aX, .int b] (.int (-11)) := by
  refine LX.ofWX (cc := cL_isContent) (maxL := 3) (ret := (some .int)) (hh := [(0, 13, 14, 20)]) (by decide) (big_at 27 15 rfl) (Nat.le_of_ble_eq_true rfl) ?_
  intro p e s m below meth cq u S9 hr hlocks htab hPQ hD hS hA ls hl
  obtain ⟨hx, hb, hml, hown, hts⟩ := id S9
  have hLF := LF.mk hPQ
  have hP := hPQ.1.1
  have hl : lv_has ls 3 [(0, .ref a.aX), (1, .int b)] := hl
  refine lv_aload_n hx hb dL_isContent_0 rfl (lv_at hl 0 rfl) ?_
  refine lv_iload_n hx hb dL_isContent_1 rfl (lv_at hl 1 rfl) ?_
  refine wr_T S9 hLF (o_isContent_x l G cy kS vS a V u b hl9 ho hF) (bigV 1 hts (big_at 27 16 rfl) (big_at 0 6 rfl) (big_at 27 19 rfl) (big_at 27 17 rfl) (big_at 27 18 rfl) rfl rfl (by decide +kernel) ⟨Nat.le_of_ble_eq_true rfl, Nat.le_of_ble_eq_true rfl⟩) hP hD hS hA rfl hl.1 rfl (Nat.le_of_ble_eq_true rfl) ⟨Nat.le_of_ble_eq_true rfl, Nat.le_of_ble_eq_true rfl⟩ dL_isContent_2 (tableOf []) ⟨0, 13, 14, 20⟩ (tableOf []) (htab.trans rfl) (by intro z hz; cases hz) (by decide) (by decide) (nwl hLF.2.2.1 (.classLink RL 20 xIOB) (by decide +kernel)) (hLF.2.2.1.2.2.1 (.castable xIOB xIOB) (by decide +kernel)) (fun H locs qx hP hD hS => ?_)
  refine lv_astore_n (lv' := [(2, .ref qx), (0, .ref a.aX), (1, .int b)]) hx hb dL_isContent_14 rfl hl (by decide) rfl (fun ls hl => ?_)
  refine lv_bipush (v := (-11)) hx hb dL_isContent_15 (by decide) ?_
  exact lx_iret (ex := []) hx hb hr hlocks ⟨rfl, rfl⟩ hP hS (Nat.le_of_ble_eq_true rfl) (Nat.le_of_ble_eq_true rfl) dL_isContent_17
set_option maxRecDepth 100000 in
set_option maxHeartbeats 1000000 in
theorem q_quacks (l : Launch) (G : va_G) (cy : Nat → ClassId) (kS vS : Nat → Nat) (a : OA) (V : OV) (j : Nat) (ho : Ok V.σ) (hj : j < nD V.σ) : LQ l yL_quacks 11 220 1 G cy kS vS a V V [.ref a.aX, .int (nI j)] (.int (qD V.σ j)) := by
  refine LX.ofWX (cc := cL_quacks) (maxL := 3) (ret := (some .int)) (hh := [(0, 5, 6, 20)]) (by decide) (big_at 27 23 rfl) (Nat.le_of_ble_eq_true rfl) ?_
  intro p e s m below meth cq u S9 hr hlocks htab hPQ hD hS hA ls hl
  obtain ⟨hx, hb, hml, hown, hts⟩ := id S9
  have hLF := LF.mk hPQ
  have hP := hPQ.1.1
  have hl : lv_has ls 3 [(0, .ref a.aX), (1, .int (nI j))] := hl
  refine lv_aload_n hx hb dL_quacks_0 rfl (lv_at hl 0 rfl) ?_
  refine lv_iload_n hx hb dL_quacks_1 rfl (lv_at hl 1 rfl) ?_
  refine wr_V S9 hLF (o_quacks l G cy kS vS a V u j ho hj) (bigV 1 hts (big_at 28 0 rfl) (big_at 0 6 rfl) (big_at 28 3 rfl) (big_at 28 1 rfl) (big_at 28 2 rfl) rfl rfl (by decide +kernel) ⟨Nat.le_of_ble_eq_true rfl, Nat.le_of_ble_eq_true rfl⟩) hP hD hS hA rfl hl.1 rfl (Nat.le_of_ble_eq_true rfl) ⟨Nat.zero_le _, Nat.zero_le _⟩ dL_quacks_2 (fun H locs hP hD hS => ?_)
  exact lx_iret (ex := []) hx hb hr hlocks ⟨rfl, rfl⟩ hP hS (Nat.zero_le _) (Nat.zero_le _) dL_quacks_5
set_option maxRecDepth 100000 in
set_option maxHeartbeats 1000000 in
theorem q_quacks_x (l : Launch) (G : va_G) (cy : Nat → ClassId) (kS vS : Nat → Nat) (a : OA) (V : OV) (b : Int32) (hl9 : l.stackTraces = false) (ho : Ok V.σ) (hF : ¬ inI b (nI (nD V.σ)) = true) : LQ l yL_quacks 11 220 1 G cy kS vS a V V [.ref a.aX, .int b] (.int (-11)) := by
  refine LX.ofWX (cc := cL_quacks) (maxL := 3) (ret := (some .int)) (hh := [(0, 5, 6, 20)]) (by decide) (big_at 27 23 rfl) (Nat.le_of_ble_eq_true rfl) ?_
  intro p e s m below meth cq u S9 hr hlocks htab hPQ hD hS hA ls hl
  obtain ⟨hx, hb, hml, hown, hts⟩ := id S9
  have hLF := LF.mk hPQ
  have hP := hPQ.1.1
  have hl : lv_has ls 3 [(0, .ref a.aX), (1, .int b)] := hl
  refine lv_aload_n hx hb dL_quacks_0 rfl (lv_at hl 0 rfl) ?_
  refine lv_iload_n hx hb dL_quacks_1 rfl (lv_at hl 1 rfl) ?_
  refine wr_T S9 hLF (o_quacks_x l G cy kS vS a V u b hl9 ho hF) (bigV 1 hts (big_at 28 0 rfl) (big_at 0 6 rfl) (big_at 28 3 rfl) (big_at 28 1 rfl) (big_at 28 2 rfl) rfl rfl (by decide +kernel) ⟨Nat.le_of_ble_eq_true rfl, Nat.le_of_ble_eq_true rfl⟩) hP hD hS hA rfl hl.1 rfl (Nat.le_of_ble_eq_true rfl) ⟨Nat.le_of_ble_eq_true rfl, Nat.le_of_ble_eq_true rfl⟩ dL_quacks_2 (tableOf []) ⟨0, 5, 6, 20⟩ (tableOf []) (htab.trans rfl) (by intro z hz; cases hz) (by decide) (by decide) (nwl hLF.2.2.1 (.classLink RL 20 xIOB) (by decide +kernel)) (hLF.2.2.1.2.2.1 (.castable xIOB xIOB) (by decide +kernel)) (fun H locs qx hP hD hS => ?_)
  refine lv_astore_n (lv' := [(2, .ref qx), (0, .ref a.aX), (1, .int b)]) hx hb dL_quacks_6 rfl hl (by decide) rfl (fun ls hl => ?_)
  refine lv_bipush (v := (-11)) hx hb dL_quacks_7 (by decide) ?_
  exact lx_iret (ex := []) hx hb hr hlocks ⟨rfl, rfl⟩ hP hS (Nat.le_of_ble_eq_true rfl) (Nat.le_of_ble_eq_true rfl) dL_quacks_9
set_option maxRecDepth 100000 in
set_option maxHeartbeats 1000000 in
theorem q_byQuacks (l : Launch) (G : va_G) (cy : Nat → ClassId) (kS vS : Nat → Nat) (a : OA) (V : OV) (j : Nat) (ho : Ok V.σ) (hj : j < nD V.σ) : LQ l yL_byQuacks 11 220 1 G cy kS vS a V V [.ref a.aX, .int (nI j)] (.int (atF (fun j => rkDN (plz (vB V.σ) (hB V.σ) (bD V.σ) (lD V.σ) (uD V.σ)) (qD V.σ) j (nD V.σ)) (nI j) 0 (nD V.σ))) := by
  refine LX.ofWX (cc := cL_byQuacks) (maxL := 3) (ret := (some .int)) (hh := [(0, 5, 6, 33)]) (by decide) (big_at 28 7 rfl) (Nat.le_of_ble_eq_true rfl) ?_
  intro p e s m below meth cq u S9 hr hlocks htab hPQ hD hS hA ls hl
  obtain ⟨hx, hb, hml, hown, hts⟩ := id S9
  have hLF := LF.mk hPQ
  have hP := hPQ.1.1
  have hl : lv_has ls 3 [(0, .ref a.aX), (1, .int (nI j))] := hl
  refine lv_aload_n hx hb dL_byQuacks_0 rfl (lv_at hl 0 rfl) ?_
  refine lv_iload_n hx hb dL_byQuacks_1 rfl (lv_at hl 1 rfl) ?_
  refine wr_V S9 hLF (o_duckByQuacks l G cy kS vS a V u j ho hj) (bigV 1 hts (big_at 28 8 rfl) (big_at 0 6 rfl) (big_at 28 11 rfl) (big_at 28 9 rfl) (big_at 28 10 rfl) rfl rfl (by decide +kernel) ⟨Nat.le_of_ble_eq_true rfl, Nat.le_of_ble_eq_true rfl⟩) hP hD hS hA rfl hl.1 rfl (Nat.le_of_ble_eq_true rfl) ⟨Nat.zero_le _, Nat.zero_le _⟩ dL_byQuacks_2 (fun H locs hP hD hS => ?_)
  exact lx_iret (ex := []) hx hb hr hlocks ⟨rfl, rfl⟩ hP hS (Nat.zero_le _) (Nat.zero_le _) dL_byQuacks_5
set_option maxRecDepth 100000 in
set_option maxHeartbeats 1000000 in
theorem q_byQuacks_x (l : Launch) (G : va_G) (cy : Nat → ClassId) (kS vS : Nat → Nat) (a : OA) (V : OV) (b : Int32) (hl9 : l.stackTraces = false) (ho : Ok V.σ) (hF : ¬ inI b (nI (nD V.σ)) = true) : LQ l yL_byQuacks 11 220 1 G cy kS vS a V V [.ref a.aX, .int b] (.int (-13)) := by
  refine LX.ofWX (cc := cL_byQuacks) (maxL := 3) (ret := (some .int)) (hh := [(0, 5, 6, 33)]) (by decide) (big_at 28 7 rfl) (Nat.le_of_ble_eq_true rfl) ?_
  intro p e s m below meth cq u S9 hr hlocks htab hPQ hD hS hA ls hl
  obtain ⟨hx, hb, hml, hown, hts⟩ := id S9
  have hLF := LF.mk hPQ
  have hP := hPQ.1.1
  have hl : lv_has ls 3 [(0, .ref a.aX), (1, .int b)] := hl
  refine lv_aload_n hx hb dL_byQuacks_0 rfl (lv_at hl 0 rfl) ?_
  refine lv_iload_n hx hb dL_byQuacks_1 rfl (lv_at hl 1 rfl) ?_
  refine wr_T S9 hLF (o_duckByQuacks_x l G cy kS vS a V u b hl9 ho hF) (bigV 1 hts (big_at 28 8 rfl) (big_at 0 6 rfl) (big_at 28 11 rfl) (big_at 28 9 rfl) (big_at 28 10 rfl) rfl rfl (by decide +kernel) ⟨Nat.le_of_ble_eq_true rfl, Nat.le_of_ble_eq_true rfl⟩) hP hD hS hA rfl hl.1 rfl (Nat.le_of_ble_eq_true rfl) ⟨Nat.le_of_ble_eq_true rfl, Nat.le_of_ble_eq_true rfl⟩ dL_byQuacks_2 (tableOf []) ⟨0, 5, 6, 33⟩ (tableOf []) (htab.trans rfl) (by intro z hz; cases hz) (by decide) (by decide) (nwl hLF.2.2.1 (.classLink RL 33 xNSE) (by decide +kernel)) (hLF.2.2.1.2.2.1 (.castable xNSE xNSE) (by decide +kernel)) (fun H locs qx hP hD hS => ?_)
  refine lv_astore_n (lv' := [(2, .ref qx), (0, .ref a.aX), (1, .int b)]) hx hb dL_byQuacks_6 rfl hl (by decide) rfl (fun ls hl => ?_)
  refine lv_bipush (v := (-13)) hx hb dL_byQuacks_7 (by decide) ?_
  exact lx_iret (ex := []) hx hb hr hlocks ⟨rfl, rfl⟩ hP hS (Nat.le_of_ble_eq_true rfl) (Nat.le_of_ble_eq_true rfl) dL_byQuacks_9
set_option maxRecDepth 100000 in
set_option maxHeartbeats 1000000 in
theorem q_eventKind (l : Launch) (G : va_G) (cy : Nat → ClassId) (kS vS : Nat → Nat) (a : OA) (V : OV) (j : Nat) (ho : Ok V.σ) (hj : j < nE V.σ) : LQ l yL_eventKind 11 220 1 G cy kS vS a V V [.ref a.aX, .int (nI j)] (.int (kE V.σ j)) := by
  refine LX.ofWX (cc := cL_eventKind) (maxL := 3) (ret := (some .int)) (hh := [(0, 5, 6, 33)]) (by decide) (big_at 42 16 rfl) (Nat.le_of_ble_eq_true rfl) ?_
  intro p e s m below meth cq u S9 hr hlocks htab hPQ hD hS hA ls hl
  obtain ⟨hx, hb, hml, hown, hts⟩ := id S9
  have hLF := LF.mk hPQ
  have hP := hPQ.1.1
  have hl : lv_has ls 3 [(0, .ref a.aX), (1, .int (nI j))] := hl
  refine lv_aload_n hx hb dL_eventKind_0 rfl (lv_at hl 0 rfl) ?_
  refine lv_iload_n hx hb dL_eventKind_1 rfl (lv_at hl 1 rfl) ?_
  refine wr_V S9 hLF (o_eventKind l G cy kS vS a V u j ho hj) (bigV 1 hts (big_at 42 17 rfl) (big_at 0 6 rfl) (big_at 42 20 rfl) (big_at 42 18 rfl) (big_at 42 19 rfl) rfl rfl (by decide +kernel) ⟨Nat.le_of_ble_eq_true rfl, Nat.le_of_ble_eq_true rfl⟩) hP hD hS hA rfl hl.1 rfl (Nat.le_of_ble_eq_true rfl) ⟨Nat.zero_le _, Nat.zero_le _⟩ dL_eventKind_2 (fun H locs hP hD hS => ?_)
  exact lx_iret (ex := []) hx hb hr hlocks ⟨rfl, rfl⟩ hP hS (Nat.zero_le _) (Nat.zero_le _) dL_eventKind_5
set_option maxRecDepth 100000 in
set_option maxHeartbeats 1000000 in
theorem q_eventKind_x (l : Launch) (G : va_G) (cy : Nat → ClassId) (kS vS : Nat → Nat) (a : OA) (V : OV) (b : Int32) (hl9 : l.stackTraces = false) (ho : Ok V.σ) (hF : ¬ inI b (nI (nE V.σ)) = true) : LQ l yL_eventKind 11 220 1 G cy kS vS a V V [.ref a.aX, .int b] (.int (-13)) := by
  refine LX.ofWX (cc := cL_eventKind) (maxL := 3) (ret := (some .int)) (hh := [(0, 5, 6, 33)]) (by decide) (big_at 42 16 rfl) (Nat.le_of_ble_eq_true rfl) ?_
  intro p e s m below meth cq u S9 hr hlocks htab hPQ hD hS hA ls hl
  obtain ⟨hx, hb, hml, hown, hts⟩ := id S9
  have hLF := LF.mk hPQ
  have hP := hPQ.1.1
  have hl : lv_has ls 3 [(0, .ref a.aX), (1, .int b)] := hl
  refine lv_aload_n hx hb dL_eventKind_0 rfl (lv_at hl 0 rfl) ?_
  refine lv_iload_n hx hb dL_eventKind_1 rfl (lv_at hl 1 rfl) ?_
  refine wr_T S9 hLF (o_eventKind_x l G cy kS vS a V u b hl9 ho hF) (bigV 1 hts (big_at 42 17 rfl) (big_at 0 6 rfl) (big_at 42 20 rfl) (big_at 42 18 rfl) (big_at 42 19 rfl) rfl rfl (by decide +kernel) ⟨Nat.le_of_ble_eq_true rfl, Nat.le_of_ble_eq_true rfl⟩) hP hD hS hA rfl hl.1 rfl (Nat.le_of_ble_eq_true rfl) ⟨Nat.le_of_ble_eq_true rfl, Nat.le_of_ble_eq_true rfl⟩ dL_eventKind_2 (tableOf []) ⟨0, 5, 6, 33⟩ (tableOf []) (htab.trans rfl) (by intro z hz; cases hz) (by decide) (by decide) (nwl hLF.2.2.1 (.classLink RL 33 xNSE) (by decide +kernel)) (hLF.2.2.1.2.2.1 (.castable xNSE xNSE) (by decide +kernel)) (fun H locs qx hP hD hS => ?_)
  refine lv_astore_n (lv' := [(2, .ref qx), (0, .ref a.aX), (1, .int b)]) hx hb dL_eventKind_6 rfl hl (by decide) rfl (fun ls hl => ?_)
  refine lv_bipush (v := (-13)) hx hb dL_eventKind_7 (by decide) ?_
  exact lx_iret (ex := []) hx hb hr hlocks ⟨rfl, rfl⟩ hP hS (Nat.le_of_ble_eq_true rfl) (Nat.le_of_ble_eq_true rfl) dL_eventKind_9
set_option maxRecDepth 100000 in
set_option maxHeartbeats 1000000 in
theorem q_eventBath (l : Launch) (G : va_G) (cy : Nat → ClassId) (kS vS : Nat → Nat) (a : OA) (V : OV) (j : Nat) (ho : Ok V.σ) (hj : j < nE V.σ) : LQ l yL_eventBath 11 220 1 G cy kS vS a V V [.ref a.aX, .int (nI j)] (.int (bE V.σ j)) := by
  refine LX.ofWX (cc := cL_eventBath) (maxL := 3) (ret := (some .int)) (hh := [(0, 5, 6, 33)]) (by decide) (big_at 44 23 rfl) (Nat.le_of_ble_eq_true rfl) ?_
  intro p e s m below meth cq u S9 hr hlocks htab hPQ hD hS hA ls hl
  obtain ⟨hx, hb, hml, hown, hts⟩ := id S9
  have hLF := LF.mk hPQ
  have hP := hPQ.1.1
  have hl : lv_has ls 3 [(0, .ref a.aX), (1, .int (nI j))] := hl
  refine lv_aload_n hx hb dL_eventBath_0 rfl (lv_at hl 0 rfl) ?_
  refine lv_iload_n hx hb dL_eventBath_1 rfl (lv_at hl 1 rfl) ?_
  refine wr_V S9 hLF (o_eventBath l G cy kS vS a V u j ho hj) (bigV 1 hts (big_at 45 0 rfl) (big_at 0 6 rfl) (big_at 45 3 rfl) (big_at 45 1 rfl) (big_at 45 2 rfl) rfl rfl (by decide +kernel) ⟨Nat.le_of_ble_eq_true rfl, Nat.le_of_ble_eq_true rfl⟩) hP hD hS hA rfl hl.1 rfl (Nat.le_of_ble_eq_true rfl) ⟨Nat.zero_le _, Nat.zero_le _⟩ dL_eventBath_2 (fun H locs hP hD hS => ?_)
  exact lx_iret (ex := []) hx hb hr hlocks ⟨rfl, rfl⟩ hP hS (Nat.zero_le _) (Nat.zero_le _) dL_eventBath_5
set_option maxRecDepth 100000 in
set_option maxHeartbeats 1000000 in
theorem q_eventBath_x (l : Launch) (G : va_G) (cy : Nat → ClassId) (kS vS : Nat → Nat) (a : OA) (V : OV) (b : Int32) (hl9 : l.stackTraces = false) (ho : Ok V.σ) (hF : ¬ inI b (nI (nE V.σ)) = true) : LQ l yL_eventBath 11 220 1 G cy kS vS a V V [.ref a.aX, .int b] (.int (-13)) := by
  refine LX.ofWX (cc := cL_eventBath) (maxL := 3) (ret := (some .int)) (hh := [(0, 5, 6, 33)]) (by decide) (big_at 44 23 rfl) (Nat.le_of_ble_eq_true rfl) ?_
  intro p e s m below meth cq u S9 hr hlocks htab hPQ hD hS hA ls hl
  obtain ⟨hx, hb, hml, hown, hts⟩ := id S9
  have hLF := LF.mk hPQ
  have hP := hPQ.1.1
  have hl : lv_has ls 3 [(0, .ref a.aX), (1, .int b)] := hl
  refine lv_aload_n hx hb dL_eventBath_0 rfl (lv_at hl 0 rfl) ?_
  refine lv_iload_n hx hb dL_eventBath_1 rfl (lv_at hl 1 rfl) ?_
  refine wr_T S9 hLF (o_eventBath_x l G cy kS vS a V u b hl9 ho hF) (bigV 1 hts (big_at 45 0 rfl) (big_at 0 6 rfl) (big_at 45 3 rfl) (big_at 45 1 rfl) (big_at 45 2 rfl) rfl rfl (by decide +kernel) ⟨Nat.le_of_ble_eq_true rfl, Nat.le_of_ble_eq_true rfl⟩) hP hD hS hA rfl hl.1 rfl (Nat.le_of_ble_eq_true rfl) ⟨Nat.le_of_ble_eq_true rfl, Nat.le_of_ble_eq_true rfl⟩ dL_eventBath_2 (tableOf []) ⟨0, 5, 6, 33⟩ (tableOf []) (htab.trans rfl) (by intro z hz; cases hz) (by decide) (by decide) (nwl hLF.2.2.1 (.classLink RL 33 xNSE) (by decide +kernel)) (hLF.2.2.1.2.2.1 (.castable xNSE xNSE) (by decide +kernel)) (fun H locs qx hP hD hS => ?_)
  refine lv_astore_n (lv' := [(2, .ref qx), (0, .ref a.aX), (1, .int b)]) hx hb dL_eventBath_6 rfl hl (by decide) rfl (fun ls hl => ?_)
  refine lv_bipush (v := (-13)) hx hb dL_eventBath_7 (by decide) ?_
  exact lx_iret (ex := []) hx hb hr hlocks ⟨rfl, rfl⟩ hP hS (Nat.le_of_ble_eq_true rfl) (Nat.le_of_ble_eq_true rfl) dL_eventBath_9
set_option maxRecDepth 100000 in
set_option maxHeartbeats 1000000 in
theorem q_eventLitres (l : Launch) (G : va_G) (cy : Nat → ClassId) (kS vS : Nat → Nat) (a : OA) (V : OV) (j : Nat) (ho : Ok V.σ) (hj : j < nE V.σ) (hl7 : ¬ lE V.σ j = -1) : LQ l yL_eventLitres 11 220 1 G cy kS vS a V V [.ref a.aX, .int (nI j)] (.int (lE V.σ j)) := by
  refine LX.ofWX (cc := cL_eventLitres) (maxL := 3) (ret := (some .int)) (hh := [(0, 5, 6, 33)]) (by decide) (big_at 45 7 rfl) (Nat.le_of_ble_eq_true rfl) ?_
  intro p e s m below meth cq u S9 hr hlocks htab hPQ hD hS hA ls hl
  obtain ⟨hx, hb, hml, hown, hts⟩ := id S9
  have hLF := LF.mk hPQ
  have hP := hPQ.1.1
  have hl : lv_has ls 3 [(0, .ref a.aX), (1, .int (nI j))] := hl
  refine lv_aload_n hx hb dL_eventLitres_0 rfl (lv_at hl 0 rfl) ?_
  refine lv_iload_n hx hb dL_eventLitres_1 rfl (lv_at hl 1 rfl) ?_
  refine wr_V S9 hLF (o_eventLitres l G cy kS vS a V u j ho hj hl7) (bigV 1 hts (big_at 45 8 rfl) (big_at 0 6 rfl) (big_at 45 11 rfl) (big_at 45 9 rfl) (big_at 45 10 rfl) rfl rfl (by decide +kernel) ⟨Nat.le_of_ble_eq_true rfl, Nat.le_of_ble_eq_true rfl⟩) hP hD hS hA rfl hl.1 rfl (Nat.le_of_ble_eq_true rfl) ⟨Nat.zero_le _, Nat.zero_le _⟩ dL_eventLitres_2 (fun H locs hP hD hS => ?_)
  exact lx_iret (ex := []) hx hb hr hlocks ⟨rfl, rfl⟩ hP hS (Nat.zero_le _) (Nat.zero_le _) dL_eventLitres_5
set_option maxRecDepth 100000 in
set_option maxHeartbeats 1000000 in
theorem q_eventLitres_x (l : Launch) (G : va_G) (cy : Nat → ClassId) (kS vS : Nat → Nat) (a : OA) (V : OV) (b : Int32) (hl9 : l.stackTraces = false) (ho : Ok V.σ) (hF : ¬ inI b (nI (nE V.σ)) = true) : LQ l yL_eventLitres 11 220 1 G cy kS vS a V V [.ref a.aX, .int b] (.int (-13)) := by
  refine LX.ofWX (cc := cL_eventLitres) (maxL := 3) (ret := (some .int)) (hh := [(0, 5, 6, 33)]) (by decide) (big_at 45 7 rfl) (Nat.le_of_ble_eq_true rfl) ?_
  intro p e s m below meth cq u S9 hr hlocks htab hPQ hD hS hA ls hl
  obtain ⟨hx, hb, hml, hown, hts⟩ := id S9
  have hLF := LF.mk hPQ
  have hP := hPQ.1.1
  have hl : lv_has ls 3 [(0, .ref a.aX), (1, .int b)] := hl
  refine lv_aload_n hx hb dL_eventLitres_0 rfl (lv_at hl 0 rfl) ?_
  refine lv_iload_n hx hb dL_eventLitres_1 rfl (lv_at hl 1 rfl) ?_
  refine wr_T S9 hLF (o_eventLitres_x l G cy kS vS a V u b hl9 ho hF) (bigV 1 hts (big_at 45 8 rfl) (big_at 0 6 rfl) (big_at 45 11 rfl) (big_at 45 9 rfl) (big_at 45 10 rfl) rfl rfl (by decide +kernel) ⟨Nat.le_of_ble_eq_true rfl, Nat.le_of_ble_eq_true rfl⟩) hP hD hS hA rfl hl.1 rfl (Nat.le_of_ble_eq_true rfl) ⟨Nat.le_of_ble_eq_true rfl, Nat.le_of_ble_eq_true rfl⟩ dL_eventLitres_2 (tableOf []) ⟨0, 5, 6, 33⟩ (tableOf []) (htab.trans rfl) (by intro z hz; cases hz) (by decide) (by decide) (nwl hLF.2.2.1 (.classLink RL 33 xNSE) (by decide +kernel)) (hLF.2.2.1.2.2.1 (.castable xNSE xNSE) (by decide +kernel)) (fun H locs qx hP hD hS => ?_)
  refine lv_astore_n (lv' := [(2, .ref qx), (0, .ref a.aX), (1, .int b)]) hx hb dL_eventLitres_6 rfl hl (by decide) rfl (fun ls hl => ?_)
  refine lv_bipush (v := (-13)) hx hb dL_eventLitres_7 (by decide) ?_
  exact lx_iret (ex := []) hx hb hr hlocks ⟨rfl, rfl⟩ hP hS (Nat.le_of_ble_eq_true rfl) (Nat.le_of_ble_eq_true rfl) dL_eventLitres_9
set_option maxRecDepth 100000 in
set_option maxHeartbeats 1000000 in
theorem q_eventLitres_2 (l : Launch) (G : va_G) (cy : Nat → ClassId) (kS vS : Nat → Nat) (a : OA) (V : OV) (j : Nat) (hl9 : l.stackTraces = false) (ho : Ok V.σ) (hj : j < nE V.σ) (hl7 : lE V.σ j = -1) : LQ l yL_eventLitres 11 220 1 G cy kS vS a V V [.ref a.aX, .int (nI j)] (.int (-13)) := by
  refine LX.ofWX (cc := cL_eventLitres) (maxL := 3) (ret := (some .int)) (hh := [(0, 5, 6, 33)]) (by decide) (big_at 45 7 rfl) (Nat.le_of_ble_eq_true rfl) ?_
  intro p e s m below meth cq u S9 hr hlocks htab hPQ hD hS hA ls hl
  obtain ⟨hx, hb, hml, hown, hts⟩ := id S9
  have hLF := LF.mk hPQ
  have hP := hPQ.1.1
  have hl : lv_has ls 3 [(0, .ref a.aX), (1, .int (nI j))] := hl
  refine lv_aload_n hx hb dL_eventLitres_0 rfl (lv_at hl 0 rfl) ?_
  refine lv_iload_n hx hb dL_eventLitres_1 rfl (lv_at hl 1 rfl) ?_
  refine wr_T S9 hLF (o_eventLitres2 l G cy kS vS a V u j hl9 ho hj hl7) (bigV 1 hts (big_at 45 8 rfl) (big_at 0 6 rfl) (big_at 45 11 rfl) (big_at 45 9 rfl) (big_at 45 10 rfl) rfl rfl (by decide +kernel) ⟨Nat.le_of_ble_eq_true rfl, Nat.le_of_ble_eq_true rfl⟩) hP hD hS hA rfl hl.1 rfl (Nat.le_of_ble_eq_true rfl) ⟨Nat.le_of_ble_eq_true rfl, Nat.le_of_ble_eq_true rfl⟩ dL_eventLitres_2 (tableOf []) ⟨0, 5, 6, 33⟩ (tableOf []) (htab.trans rfl) (by intro z hz; cases hz) (by decide) (by decide) (nwl hLF.2.2.1 (.classLink RL 33 xNSE) (by decide +kernel)) (hLF.2.2.1.2.2.1 (.castable xNSE xNSE) (by decide +kernel)) (fun H locs qx hP hD hS => ?_)
  refine lv_astore_n (lv' := [(2, .ref qx), (0, .ref a.aX), (1, .int (nI j))]) hx hb dL_eventLitres_6 rfl hl (by decide) rfl (fun ls hl => ?_)
  refine lv_bipush (v := (-13)) hx hb dL_eventLitres_7 (by decide) ?_
  exact lx_iret (ex := []) hx hb hr hlocks ⟨rfl, rfl⟩ hP hS (Nat.le_of_ble_eq_true rfl) (Nat.le_of_ble_eq_true rfl) dL_eventLitres_9
set_option maxRecDepth 100000 in
set_option maxHeartbeats 1000000 in
theorem q_renderBath_1 (l : Launch) (G : va_G) (cy : Nat → ClassId) (kS vS : Nat → Nat) (a : OA) (V : OV) (b : Int32) (hl9 : l.stackTraces = false) (ho : Ok V.σ) (hF : ¬ inI b (nI (nB V.σ)) = true) : LQ l yL_renderBath 11 220 1 G cy kS vS a V V [.ref a.aX, .int b] (.int (-11)) := by
  refine LX.ofWX (cc := cL_renderBath) (maxL := 3) (ret := (some .int)) (hh := [(0, 5, 6, 20)]) (by decide) (big_at 38 8 rfl) (Nat.le_of_ble_eq_true rfl) ?_
  intro p e s m below meth cq u S9 hr hlocks htab hPQ hD hS hA ls hl
  obtain ⟨hx, hb, hml, hown, hts⟩ := id S9
  have hLF := LF.mk hPQ
  have hP := hPQ.1.1
  have hl : lv_has ls 3 [(0, .ref a.aX), (1, .int b)] := hl
  refine lv_aload_n hx hb dL_renderBath_0 rfl (lv_at hl 0 rfl) ?_
  refine lv_iload_n hx hb dL_renderBath_1 rfl (lv_at hl 1 rfl) ?_
  refine wr_T S9 hLF (o_renderBath1 l G cy kS vS a V u b hl9 ho hF) (bigV 1 hts (big_at 38 9 rfl) (big_at 0 6 rfl) (big_at 38 12 rfl) (big_at 38 10 rfl) (big_at 38 11 rfl) rfl rfl (by decide +kernel) ⟨Nat.le_of_ble_eq_true rfl, Nat.le_of_ble_eq_true rfl⟩) hP hD hS hA rfl hl.1 rfl (Nat.le_of_ble_eq_true rfl) ⟨Nat.le_of_ble_eq_true rfl, Nat.le_of_ble_eq_true rfl⟩ dL_renderBath_2 (tableOf []) ⟨0, 5, 6, 20⟩ (tableOf []) (htab.trans rfl) (by intro z hz; cases hz) (by decide) (by decide) (nwl hLF.2.2.1 (.classLink RL 20 xIOB) (by decide +kernel)) (hLF.2.2.1.2.2.1 (.castable xIOB xIOB) (by decide +kernel)) (fun H locs qx hP hD hS => ?_)
  refine lv_astore_n (lv' := [(2, .ref qx), (0, .ref a.aX), (1, .int b)]) hx hb dL_renderBath_6 rfl hl (by decide) rfl (fun ls hl => ?_)
  refine lv_bipush (v := (-11)) hx hb dL_renderBath_7 (by decide) ?_
  exact lx_iret (ex := []) hx hb hr hlocks ⟨rfl, rfl⟩ hP hS (Nat.le_of_ble_eq_true rfl) (Nat.le_of_ble_eq_true rfl) dL_renderBath_9
set_option maxRecDepth 100000 in
set_option maxHeartbeats 1000000 in
theorem q_renderBath (l : Launch) (G : va_G) (cy : Nat → ClassId) (kS vS : Nat → Nat) (a : OA) (V : OV) (j : Nat) (ho : Ok V.σ) (hj : j < nB V.σ) (hw : WtA (vB V.σ) (hB V.σ)) (hn16 : V.nb ≤ 16) : LQ l yL_renderBath 11 220 1 G cy kS vS a V (OV.mk V.σ V.ρ V.nx V.ct V.LN V.f ((rnd V.σ j).length) (wrS V.fb 0 (rnd V.σ j))) [.ref a.aX, .int (nI j)] (.int (nI ((rnd V.σ j).length))) := by
  refine LX.ofWX (cc := cL_renderBath) (maxL := 3) (ret := (some .int)) (hh := [(0, 5, 6, 20)]) (by decide) (big_at 38 8 rfl) (Nat.le_of_ble_eq_true rfl) ?_
  intro p e s m below meth cq u S9 hr hlocks htab hPQ hD hS hA ls hl
  obtain ⟨hx, hb, hml, hown, hts⟩ := id S9
  have hLF := LF.mk hPQ
  have hP := hPQ.1.1
  have hl : lv_has ls 3 [(0, .ref a.aX), (1, .int (nI j))] := hl
  refine lv_aload_n hx hb dL_renderBath_0 rfl (lv_at hl 0 rfl) ?_
  refine lv_iload_n hx hb dL_renderBath_1 rfl (lv_at hl 1 rfl) ?_
  refine wr_V S9 hLF (o_renderBath l G cy kS vS a V u j ho hj hw hn16) (bigV 1 hts (big_at 38 9 rfl) (big_at 0 6 rfl) (big_at 38 12 rfl) (big_at 38 10 rfl) (big_at 38 11 rfl) rfl rfl (by decide +kernel) ⟨Nat.le_of_ble_eq_true rfl, Nat.le_of_ble_eq_true rfl⟩) hP hD hS hA rfl hl.1 rfl (Nat.le_of_ble_eq_true rfl) ⟨Nat.zero_le _, Nat.zero_le _⟩ dL_renderBath_2 (fun H locs hP hD hS => ?_)
  exact lx_iret (ex := []) hx hb hr hlocks ⟨rfl, rfl⟩ hP hS (Nat.zero_le _) (Nat.zero_le _) dL_renderBath_5
set_option maxRecDepth 100000 in
set_option maxHeartbeats 1000000 in
theorem q_outputAt (l : Launch) (G : va_G) (cy : Nat → ClassId) (kS vS : Nat → Nat) (a : OA) (V : OV) (k : Nat) (hk9 : k < V.nb) (hn9 : V.nb ≤ 16) (hc9 : ((V.fb k &&& 255).toUInt32 % 65536).toInt32 = V.fb k) (hx9 : vp_nar .char (V.fb k) = V.fb k) : LQ l yL_outputAt 11 220 1 G cy kS vS a V V [.ref a.aX, .int (nI k)] (.int (V.fb k)) := by
  refine LX.ofWX (cc := cL_outputAt) (maxL := 3) (ret := (some .int)) (hh := [(0, 5, 6, 20)]) (by decide) (big_at 41 1 rfl) (Nat.le_of_ble_eq_true rfl) ?_
  intro p e s m below meth cq u S9 hr hlocks htab hPQ hD hS hA ls hl
  obtain ⟨hx, hb, hml, hown, hts⟩ := id S9
  have hLF := LF.mk hPQ
  have hP := hPQ.1.1
  have hl : lv_has ls 3 [(0, .ref a.aX), (1, .int (nI k))] := hl
  refine lv_aload_n hx hb dL_outputAt_0 rfl (lv_at hl 0 rfl) ?_
  refine lv_iload_n hx hb dL_outputAt_1 rfl (lv_at hl 1 rfl) ?_
  refine wr_V S9 hLF (o_outputAt l G cy kS vS a V u k hk9 hn9 hc9 hx9) (bigV 1 hts (big_at 41 2 rfl) (big_at 0 6 rfl) (big_at 41 5 rfl) (big_at 41 3 rfl) (big_at 41 4 rfl) rfl rfl (by decide +kernel) ⟨Nat.le_of_ble_eq_true rfl, Nat.le_of_ble_eq_true rfl⟩) hP hD hS hA rfl hl.1 rfl (Nat.le_of_ble_eq_true rfl) ⟨Nat.zero_le _, Nat.zero_le _⟩ dL_outputAt_2 (fun H locs hP hD hS => ?_)
  exact lx_iret (ex := []) hx hb hr hlocks ⟨rfl, rfl⟩ hP hS (Nat.zero_le _) (Nat.zero_le _) dL_outputAt_5
set_option maxRecDepth 100000 in
set_option maxHeartbeats 1000000 in
theorem q_type (l : Launch) (G : va_G) (cy : Nat → ClassId) (kS vS : Nat → Nat) (a : OA) (V : OV) (c : Int32) (hx1 : inR c 32 126 = true) (hl9 : V.LN < 60) (hc : vp_nar .char c = c) : LQ l yL_type 11 220 1 G cy kS vS a V (OV.mk V.σ V.ρ V.nx V.ct (V.LN + 1) (upd V.f V.LN c) V.nb V.fb) [.ref a.aX, .int c] (.int (nI (V.LN + 1))) := by
  refine LX.ofWX (cc := cL_type) (maxL := 3) (ret := (some .int)) (hh := [(0, 5, 6, 22), (0, 5, 10, 14)]) (by decide) (big_at 47 23 rfl) (Nat.le_of_ble_eq_true rfl) ?_
  intro p e s m below meth cq u S9 hr hlocks htab hPQ hD hS hA ls hl
  obtain ⟨hx, hb, hml, hown, hts⟩ := id S9
  have hLF := LF.mk hPQ
  have hP := hPQ.1.1
  have hl : lv_has ls 3 [(0, .ref a.aX), (1, .int c)] := hl
  refine lv_aload_n hx hb dL_type_0 rfl (lv_at hl 0 rfl) ?_
  refine lv_iload_n hx hb dL_type_1 rfl (lv_at hl 1 rfl) ?_
  refine wr_V S9 hLF (o_type l G cy kS vS a V u c hx1 hl9 hc) (bigV 1 hts (big_at 48 0 rfl) (big_at 0 6 rfl) (big_at 48 3 rfl) (big_at 48 1 rfl) (big_at 48 2 rfl) rfl rfl (by decide +kernel) ⟨Nat.le_of_ble_eq_true rfl, Nat.le_of_ble_eq_true rfl⟩) hP hD hS hA rfl hl.1 rfl (Nat.le_of_ble_eq_true rfl) ⟨Nat.zero_le _, Nat.zero_le _⟩ dL_type_2 (fun H locs hP hD hS => ?_)
  exact lx_iret (ex := []) hx hb hr hlocks ⟨rfl, rfl⟩ hP hS (Nat.zero_le _) (Nat.zero_le _) dL_type_5
set_option maxRecDepth 100000 in
set_option maxHeartbeats 1000000 in
theorem q_type_1 (l : Launch) (G : va_G) (cy : Nat → ClassId) (kS vS : Nat → Nat) (a : OA) (V : OV) (c : Int32) (hl9 : l.stackTraces = false) (hx1 : ¬ inR c 32 126 = true) : LQ l yL_type 11 220 1 G cy kS vS a V V [.ref a.aX, .int c] (.int (-12)) := by
  refine LX.ofWX (cc := cL_type) (maxL := 3) (ret := (some .int)) (hh := [(0, 5, 6, 22), (0, 5, 10, 14)]) (by decide) (big_at 47 23 rfl) (Nat.le_of_ble_eq_true rfl) ?_
  intro p e s m below meth cq u S9 hr hlocks htab hPQ hD hS hA ls hl
  obtain ⟨hx, hb, hml, hown, hts⟩ := id S9
  have hLF := LF.mk hPQ
  have hP := hPQ.1.1
  have hl : lv_has ls 3 [(0, .ref a.aX), (1, .int c)] := hl
  refine lv_aload_n hx hb dL_type_0 rfl (lv_at hl 0 rfl) ?_
  refine lv_iload_n hx hb dL_type_1 rfl (lv_at hl 1 rfl) ?_
  refine wr_T S9 hLF (o_type1 l G cy kS vS a V u c hl9 hx1) (bigV 1 hts (big_at 48 0 rfl) (big_at 0 6 rfl) (big_at 48 3 rfl) (big_at 48 1 rfl) (big_at 48 2 rfl) rfl rfl (by decide +kernel) ⟨Nat.le_of_ble_eq_true rfl, Nat.le_of_ble_eq_true rfl⟩) hP hD hS hA rfl hl.1 rfl (Nat.le_of_ble_eq_true rfl) ⟨Nat.le_of_ble_eq_true rfl, Nat.le_of_ble_eq_true rfl⟩ dL_type_2 (tableOf []) ⟨0, 5, 6, 22⟩ (tableOf [(0, 5, 10, 14)]) (htab.trans rfl) (by intro z hz; cases hz) (by decide) (by decide) (nwl hLF.2.2.1 (.classLink RL 22 xIAE) (by decide +kernel)) (hLF.2.2.1.2.2.1 (.castable xIAE xIAE) (by decide +kernel)) (fun H locs qx hP hD hS => ?_)
  refine lv_astore_n (lv' := [(2, .ref qx), (0, .ref a.aX), (1, .int c)]) hx hb dL_type_6 rfl hl (by decide) rfl (fun ls hl => ?_)
  refine lv_bipush (v := (-12)) hx hb dL_type_7 (by decide) ?_
  exact lx_iret (ex := []) hx hb hr hlocks ⟨rfl, rfl⟩ hP hS (Nat.le_of_ble_eq_true rfl) (Nat.le_of_ble_eq_true rfl) dL_type_9
set_option maxRecDepth 100000 in
set_option maxHeartbeats 1000000 in
theorem q_type_2 (l : Launch) (G : va_G) (cy : Nat → ClassId) (kS vS : Nat → Nat) (a : OA) (V : OV) (c : Int32) (hl9 : l.stackTraces = false) (hx1 : inR c 32 126 = true) (hL6 : V.LN = 60) : LQ l yL_type 11 220 1 G cy kS vS a V V [.ref a.aX, .int c] (.int (-14)) := by
  refine LX.ofWX (cc := cL_type) (maxL := 3) (ret := (some .int)) (hh := [(0, 5, 6, 22), (0, 5, 10, 14)]) (by decide) (big_at 47 23 rfl) (Nat.le_of_ble_eq_true rfl) ?_
  intro p e s m below meth cq u S9 hr hlocks htab hPQ hD hS hA ls hl
  obtain ⟨hx, hb, hml, hown, hts⟩ := id S9
  have hLF := LF.mk hPQ
  have hP := hPQ.1.1
  have hl : lv_has ls 3 [(0, .ref a.aX), (1, .int c)] := hl
  refine lv_aload_n hx hb dL_type_0 rfl (lv_at hl 0 rfl) ?_
  refine lv_iload_n hx hb dL_type_1 rfl (lv_at hl 1 rfl) ?_
  refine wr_T S9 hLF (o_type2 l G cy kS vS a V u c hl9 hx1 hL6) (bigV 1 hts (big_at 48 0 rfl) (big_at 0 6 rfl) (big_at 48 3 rfl) (big_at 48 1 rfl) (big_at 48 2 rfl) rfl rfl (by decide +kernel) ⟨Nat.le_of_ble_eq_true rfl, Nat.le_of_ble_eq_true rfl⟩) hP hD hS hA rfl hl.1 rfl (Nat.le_of_ble_eq_true rfl) ⟨Nat.le_of_ble_eq_true rfl, Nat.le_of_ble_eq_true rfl⟩ dL_type_2 (tableOf [(0, 5, 6, 22)]) ⟨0, 5, 10, 14⟩ (tableOf []) (htab.trans rfl) (by intro z hz; simp only [tableOf, List.map_cons, List.map_nil, List.mem_cons, List.not_mem_nil, or_false] at hz; rcases hz with rfl <;> first | exact Or.inr ⟨by decide, xIAE, nwl hLF.2.2.1 (.classLink RL 22 xIAE) (by decide +kernel), hLF.2.2.1.2.2.2.2 (xISE, xIAE) (by decide +kernel)⟩) (by decide) (by decide) (nwl hLF.2.2.1 (.classLink RL 14 xISE) (by decide +kernel)) (hLF.2.2.1.2.2.1 (.castable xISE xISE) (by decide +kernel)) (fun H locs qx hP hD hS => ?_)
  refine lv_astore_n (lv' := [(2, .ref qx), (0, .ref a.aX), (1, .int c)]) hx hb dL_type_10 rfl hl (by decide) rfl (fun ls hl => ?_)
  refine lv_bipush (v := (-14)) hx hb dL_type_11 (by decide) ?_
  exact lx_iret (ex := []) hx hb hr hlocks ⟨rfl, rfl⟩ hP hS (Nat.le_of_ble_eq_true rfl) (Nat.le_of_ble_eq_true rfl) dL_type_13
set_option maxRecDepth 100000 in
set_option maxHeartbeats 1000000 in
theorem q_runs (l : Launch) (G : va_G) (cy : Nat → ClassId) (kS vS : Nat → Nat) (a : OA) (V : OV) (R9 : OU → Lx × Cs) (n0 : Nat) (τ9 : St) (n9 : Nat) (hI : Inv n0 V.σ) (hn0 : n0 + 2000 < 2147483648) (hL : V.LN ≤ 60) (hcz : czN 60 V.f) (hR0 : ∀ u : OU, lpC V.f V.LN 13 (0, false) (0, u.gk, u.g1, u.g2, u.g3) = (R9 u)) (hc13 : ∀ u : OU, (R9 u).2.1 ≤ 13) (hnx : V.nx < 8) (hct : V.ct ≤ 8) (hm : ∀ u : OU, (R9 u).1.2 = false) (hR8 : ∀ u : OU, rnC (R9 u).2 0 (R9 u).2.1 V.σ = (τ9, none)) (hn9 : ∀ u : OU, (R9 u).2.1 = n9) : LQ l yL_runs 11 220 1 G cy kS vS a V (OV.mk τ9 (updR V.ρ V.nx V.σ) ((V.nx + 1) % 8) (kInc V.ct) 0 V.f V.nb V.fb) [.ref a.aX] (.int (nI n9)) := by
  refine LX.ofWX (cc := cL_runs) (maxL := 2) (ret := (some .int)) (hh := [(0, 4, 5, 22), (0, 4, 8, 14)]) (by decide) (big_at 48 11 rfl) (Nat.le_of_ble_eq_true rfl) ?_
  intro p e s m below meth cq u S9 hr hlocks htab hPQ hD hS hA ls hl
  obtain ⟨hx, hb, hml, hown, hts⟩ := id S9
  have hLF := LF.mk hPQ
  have hP := hPQ.1.1
  have hl : lv_has ls 2 [(0, .ref a.aX)] := hl
  refine lv_aload_n hx hb dL_runs_0 rfl (lv_at hl 0 rfl) ?_
  refine wr_V S9 hLF (o_runScript l G cy kS vS a V u (R9 u) n0 τ9 hI hn0 hL hcz (hR0 u) (hc13 u) hnx hct (hm u) (hR8 u)) (bigV 0 hts (big_at 48 12 rfl) (big_at 0 6 rfl) (big_at 48 15 rfl) (big_at 48 13 rfl) (big_at 48 14 rfl) rfl rfl (by decide +kernel) ⟨Nat.le_of_ble_eq_true rfl, Nat.le_of_ble_eq_true rfl⟩) hP hD hS hA rfl hl.1 rfl (Nat.le_of_ble_eq_true rfl) ⟨Nat.zero_le _, Nat.zero_le _⟩ dL_runs_1 (fun H locs hP hD hS => ?_)
  exact lx_iret (ex := []) hx hb hr hlocks ⟨rfl, by rw [hn9 u]⟩ hP hS (Nat.zero_le _) (Nat.zero_le _) dL_runs_4
set_option maxRecDepth 100000 in
set_option maxHeartbeats 1000000 in
theorem q_runs_2 (l : Launch) (G : va_G) (cy : Nat → ClassId) (kS vS : Nat → Nat) (a : OA) (V : OV) (R9 : OU → Lx × Cs) (n0 : Nat) (τ9 : St) (i8 : Nat) (hl9 : l.stackTraces = false) (hI : Inv n0 V.σ) (hn0 : n0 + 2000 < 2147483648) (hL : V.LN ≤ 60) (hcz : czN 60 V.f) (hR0 : ∀ u : OU, lpC V.f V.LN 13 (0, false) (0, u.gk, u.g1, u.g2, u.g3) = (R9 u)) (hc13 : ∀ u : OU, (R9 u).2.1 ≤ 13) (hnx : V.nx < 8) (hct : V.ct ≤ 8) (hm : ∀ u : OU, (R9 u).1.2 = false) (hR8 : ∀ u : OU, rnC (R9 u).2 0 (R9 u).2.1 V.σ = (τ9, some i8)) : LQ l yL_runs 11 220 1 G cy kS vS a V (OV.mk V.σ V.ρ V.nx V.ct 0 V.f V.nb V.fb) [.ref a.aX] (.int (-2)) := by
  refine LX.ofWX (cc := cL_runs) (maxL := 2) (ret := (some .int)) (hh := [(0, 4, 5, 22), (0, 4, 8, 14)]) (by decide) (big_at 48 11 rfl) (Nat.le_of_ble_eq_true rfl) ?_
  intro p e s m below meth cq u S9 hr hlocks htab hPQ hD hS hA ls hl
  obtain ⟨hx, hb, hml, hown, hts⟩ := id S9
  have hLF := LF.mk hPQ
  have hP := hPQ.1.1
  have hl : lv_has ls 2 [(0, .ref a.aX)] := hl
  refine lv_aload_n hx hb dL_runs_0 rfl (lv_at hl 0 rfl) ?_
  refine wr_T S9 hLF (o_runScript2 l G cy kS vS a V u (R9 u) n0 τ9 i8 hl9 hI hn0 hL hcz (hR0 u) (hc13 u) hnx hct (hm u) (hR8 u)) (bigV 0 hts (big_at 48 12 rfl) (big_at 0 6 rfl) (big_at 48 15 rfl) (big_at 48 13 rfl) (big_at 48 14 rfl) rfl rfl (by decide +kernel) ⟨Nat.le_of_ble_eq_true rfl, Nat.le_of_ble_eq_true rfl⟩) hP hD hS hA rfl hl.1 rfl (Nat.le_of_ble_eq_true rfl) ⟨Nat.le_of_ble_eq_true rfl, Nat.le_of_ble_eq_true rfl⟩ dL_runs_1 (tableOf [(0, 4, 5, 22)]) ⟨0, 4, 8, 14⟩ (tableOf []) (htab.trans rfl) (by intro z hz; simp only [tableOf, List.map_cons, List.map_nil, List.mem_cons, List.not_mem_nil, or_false] at hz; rcases hz with rfl <;> first | exact Or.inr ⟨by decide, xIAE, nwl hLF.2.2.1 (.classLink RL 22 xIAE) (by decide +kernel), hLF.2.2.1.2.2.2.2 (xISE, xIAE) (by decide +kernel)⟩) (by decide) (by decide) (nwl hLF.2.2.1 (.classLink RL 14 xISE) (by decide +kernel)) (hLF.2.2.1.2.2.1 (.castable xISE xISE) (by decide +kernel)) (fun H locs qx hP hD hS => ?_)
  refine lv_astore_n (lv' := [(1, .ref qx), (0, .ref a.aX)]) hx hb dL_runs_8 rfl hl (by decide) rfl (fun ls hl => ?_)
  refine lv_bipush (v := (-2)) hx hb dL_runs_9 (by decide) ?_
  exact lx_iret (ex := []) hx hb hr hlocks ⟨rfl, rfl⟩ hP hS (Nat.le_of_ble_eq_true rfl) (Nat.le_of_ble_eq_true rfl) dL_runs_11
set_option maxRecDepth 100000 in
set_option maxHeartbeats 1000000 in
theorem q_undo (l : Launch) (G : va_G) (cy : Nat → ClassId) (kS vS : Nat → Nat) (a : OA) (σ : St) (ρ : Nat → St) (nx : Nat) (K : Nat) (LN : Nat) (f : Nat → Int32) (nb : Nat) (fb : Nat → Int32) (hok : ∀ k, k < 8 → Ok (ρ k)) (hnx8 : nx < 8) (hct : K < 8) : LQ l yL_undo 11 220 1 G cy kS vS a (OV.mk σ ρ nx (K + 1) LN f nb fb) (OV.mk (ρ ((nx + 7) % 8)) ρ ((nx + 7) % 8) K LN f nb fb) [.ref a.aX] (.int (nI K)) := by
  refine LX.ofWX (cc := cL_undo) (maxL := 2) (ret := (some .int)) (hh := [(0, 4, 5, 33)]) (by decide) (big_at 51 22 rfl) (Nat.le_of_ble_eq_true rfl) ?_
  intro p e s m below meth cq u S9 hr hlocks htab hPQ hD hS hA ls hl
  obtain ⟨hx, hb, hml, hown, hts⟩ := id S9
  have hLF := LF.mk hPQ
  have hP := hPQ.1.1
  have hl : lv_has ls 2 [(0, .ref a.aX)] := hl
  refine lv_aload_n hx hb dL_undo_0 rfl (lv_at hl 0 rfl) ?_
  refine wr_V S9 hLF (o_undo l G cy kS vS a u σ ρ nx K LN f nb fb hok hnx8 hct) (bigV 0 hts (big_at 51 23 rfl) (big_at 0 6 rfl) (big_at 52 2 rfl) (big_at 52 0 rfl) (big_at 52 1 rfl) rfl rfl (by decide +kernel) ⟨Nat.le_of_ble_eq_true rfl, Nat.le_of_ble_eq_true rfl⟩) hP hD hS hA rfl hl.1 rfl (Nat.le_of_ble_eq_true rfl) ⟨Nat.zero_le _, Nat.zero_le _⟩ dL_undo_1 (fun H locs hP hD hS => ?_)
  exact lx_iret (ex := []) hx hb hr hlocks ⟨rfl, rfl⟩ hP hS (Nat.zero_le _) (Nat.zero_le _) dL_undo_4
