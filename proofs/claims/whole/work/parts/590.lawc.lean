/-! the cases of the law, 0 -/
set_option maxRecDepth 100000 in
set_option maxHeartbeats 4000000 in
theorem case_0 {p : Program} {l : Launch} {e : Env} {s : State} {m : MethodId} {below : List Frame} {meth : Method} {cq : Code} {G : va_G} {cy : Nat → ClassId} {kS vS : Nat → Nat} {A : Nat → Prop} {a : LA} {b L q : Nat} {xs : Nat → Int32} {Q : State → Prop} {n0 cells slots : Nat} (hC : LC l p s m meth cq G cy kS vS A b L xs) (hq : 4 * q + 4 ≤ L) (hn0 : n0 < 1000000) (hc1 : cells + 1 ≤ room_1.cells) (hs1 : slots + 6 ≤ room_1.slots) (kk : LGo p l e s m below meth cq G cy A a b q Q (n0 + 300) (cells + 1) (slots + 6) 2890) : LGo p l e s m below meth cq G cy A a b q Q n0 cells slots 280 := by
  intro s9 H locs ls hI hP hD hS hl
  obtain ⟨hx, hb, hml, hown, hts⟩ := id hC.S9
  have hL9 := hC.hL
  have hc0 : cells + 0 ≤ room_1.cells := Nat.le_of_succ_le hc1
  have hcn : cells ≤ room_1.cells := Nat.le_of_succ_le hc1
  have hs0 : slots + 0 ≤ room_1.slots := Nat.le_trans (Nat.le_add_right slots 6) hs1
  have hsn : slots ≤ room_1.slots := Nat.le_trans (Nat.le_add_right slots 6) hs1
  have ho := hI.1.1
  have hN0 := ho.1
  have hM0 := ho.2.1
  have hE0 := ho.2.2.1
  have hnx := hI.2.2.2.2.1
  have hct := hI.2.2.2.2.2.1
  by_cases h5 : nB s9.σ < 5
  · obtain ⟨z1, z2, z3⟩ := hI.1.2.2.1 (nB s9.σ) h5 (Nat.le_refl _)
    obtain ⟨S9, eS⟩ : ∃ z : LwS, z = (LwS.mk (plcS s9.σ) s9.υ s9.ς s9.hs s9.ep s9.fc s9.ml 0 ((s9.nx + 1) % 8) (kInc s9.ct) s9.nb s9.n s9.LN s9.CM (updR s9.ρ s9.nx s9.σ) s9.x s9.x0 s9.f s9.gk s9.g1 s9.g2 s9.g3 s9.fb (encS s9.σ) s9.fA s9.fV (pastP s9.ct s9.fP (encS s9.σ)) s9.fO s9.g (fun _ => (nI (nB s9.σ)).toInt64) s9.fd) := ⟨_, rfl⟩
    refine lv_aload_n hx hb dL_law_280 rfl (lv_at hl 4 rfl) ?_
    refine lv_aload_n hx hb dL_law_281 rfl (lv_at hl 2 rfl) ?_
    refine lw_w (mc := 0) (ms := 0) (Wc := (LCh cy a s9 s9)) (Wn := (LCh cy a S9 s9)) hC (w_addBath_ok l G cy kS vS a.aX a.na a.tr a.sn s9.hs a.hi a.sc s9.ep s9.fc a.ob a.hA s9.nx s9.ct a.ra s9.ρ s9.σ a.oA s9.fo hI.1.1 hnx hct h5 (if_pos h5)) (vx_cwSW 2 hC.S9.2.2.2.2 gL_law_L_addBath rfl rfl rfl (by decide +kernel) ⟨Nat.le_of_ble_eq_true rfl, Nat.le_of_ble_eq_true rfl⟩) [0, 1, 4, 5, 6, 24] rfl (by decide) (SameL.cons SameA.rf (SameL.cons SameA.st (SameL.cons SameA.one (SameL.cons SameA.rf (SameL.cons SameA.ring (SameL.cons SameA.one SameL.nil)))))) (by subst eS; rfl) hP hD hS rfl hl.1 rfl (Nat.le_of_ble_eq_true rfl) ⟨hc0, hs0⟩ dL_law_282 (fun H locs hP hD hS => ?_)
    refine lv_istore (lv' := [(6, .int 0), (5, .int (nI (4 * q))), (4, .ref a.oD), (3, .ref a.oA), (2, .ref a.am), (1, .ref a.aX), (0, .ref b)]) hx hb dL_law_285 hl (by decide) rfl (fun ls hl => ?_)
    refine lv_aload_n hx hb dL_law_287 rfl (lv_at hl 4 rfl) ?_
    refine lw_m (s1 := S9) (t1 := s9) (Wn := (LCh cy a S9 S9)) hC (c_X8_addBath_ok l G cy a.am a.aS a.aBf a.aAs a.aSv a.aPa a.aOu a.aTx a.aCo s9.ct s9.nb s9.LN ((s9.x0).1) s9.CM s9.hs s9.th (bI (s9.x0).2) s9.ep s9.fc s9.σ s9.fB s9.fP hI.1.1 hct z1 z2 z3 (if_pos h5)) (cwV 0 hC.S9.2.2.2.2 gL_law_X8_addBath rfl rfl rfl (by decide +kernel) ⟨Nat.le_of_ble_eq_true rfl, Nat.le_of_ble_eq_true rfl⟩) [15, 16, 17, 20] rfl (by decide) (SameR.cons (SameR.cons (SameR.cons (SameR.cons SameR.nil)))) (by subst eS; rfl) hP hD hS rfl hl.1 rfl (Nat.le_of_ble_eq_true rfl) ⟨hcn, hsn⟩ dL_law_288 (fun H locs hP hD hS => ?_)
    refine lv_istore (lv' := [(7, .int (nI (nB s9.σ))), (6, .int 0), (5, .int (nI (4 * q))), (4, .ref a.oD), (3, .ref a.oA), (2, .ref a.am), (1, .ref a.aX), (0, .ref b)]) hx hb dL_law_291 hl (by decide) rfl (fun ls hl => ?_)
    refine lv_aload_n hx hb dL_law_293 rfl (lv_at hl 5 rfl) ?_
    refine lw_thrown (s1 := S9) (t1 := S9) (k := 0) hC hP (by subst eS; rfl) hl.1 (Nat.le_of_ble_eq_true rfl) ⟨hcn, hsn⟩ dL_law_294 ?_
    refine lv_iload hx hb dL_law_297 (lv_at hl 1 rfl) ?_
    refine lv_icmp_eq (tgt := 304) hx hb dL_law_299 (by decide) (fun c_299 => ?_) (fun c_299 => ?_)
    rotate_left
    · exact absurd c_299 (by decide)
    refine lv_iload hx hb dL_law_304 (lv_at hl 1 rfl) ?_
    refine lv_if_ne (tgt := 321) hx hb dL_law_306 (by decide) (fun c_306 => ?_) (fun c_306 => ?_)
    · exact absurd c_306 (by decide)
    refine lv_aload_n hx hb dL_law_309 rfl (lv_at hl 4 rfl) ?_
    refine lv_iconst (v := 0) hx hb dL_law_310 (by decide) ?_
    refine lw_ldL (s1 := S9) (t1 := S9) (x := (nI (nB s9.σ)).toInt64) hC hP (by subst eS; rfl) dL_law_311 ?_
    refine lv_iload hx hb dL_law_312 (lv_at hl 0 rfl) ?_
    refine lv_i2l hx hb dL_law_314 rfl ?_
    refine m_lcmp0 hx hb rfl dL_law_315 ?_
    refine lv_if_eq (tgt := 321) hx hb dL_law_316 (by decide) (fun c_316 => ?_) (fun c_316 => ?_)
    rotate_left
    · exact absurd c_316 (by decide)
    refine lv_goto (tgt := 2890) hx hb dL_law_321 (by decide) ?_
    refine W.widen (k := cells + 1) (n := slots + 6) (by omega) (by omega) ?_
    exact kk S9 H locs ls (LI.of (LI.push hI ((inv_plcS hI.1 h5).mono (by omega))) (by subst eS; rfl) (by subst eS; rfl) (by subst eS; rfl) (by subst eS; rfl) (by subst eS; rfl) (by subst eS; rfl) (by subst eS; rfl) (by subst eS; rfl) (by subst eS; rfl) (by subst eS; rfl) (by subst eS; rfl) (by subst eS; rfl) (by subst eS; rfl) (by subst eS; rfl) (by subst eS; rfl)) hP hD hS (lv_sub hl [2, 3, 4, 5, 6, 7] rfl)
  · obtain ⟨S9, eS⟩ : ∃ z : LwS, z = (LwS.mk s9.σ s9.υ s9.ς s9.hs s9.ep s9.fc s9.ml 1 s9.nx s9.ct s9.nb s9.n s9.LN s9.CM s9.ρ s9.x s9.x0 s9.f s9.gk s9.g1 s9.g2 s9.g3 s9.fb (encS s9.σ) s9.fA s9.fV s9.fP s9.fO s9.g s9.fo s9.fd) := ⟨_, rfl⟩
    refine lv_aload_n hx hb dL_law_280 rfl (lv_at hl 4 rfl) ?_
    refine lv_aload_n hx hb dL_law_281 rfl (lv_at hl 2 rfl) ?_
    refine lw_w (mc := 1) (ms := 6) (Wc := (LCh cy a s9 s9)) (Wn := (LCh cy a S9 s9)) hC (w_addBath_3 l G cy kS vS a.aX a.na a.tr a.sn s9.hs a.hi a.sc s9.ep s9.fc a.ob s9.σ a.oA s9.fo hC.hl9 hI.1.1 (if_neg h5)) (vx_cwSW 2 hC.S9.2.2.2.2 gL_law_L_addBath rfl rfl rfl (by decide +kernel) ⟨Nat.le_of_ble_eq_true rfl, Nat.le_of_ble_eq_true rfl⟩) [0, 1, 24] rfl (by decide) (SameL.cons SameA.rf (SameL.cons SameA.rf (SameL.cons SameA.rf SameL.nil))) (by subst eS; rfl) hP hD hS rfl hl.1 rfl (Nat.le_of_ble_eq_true rfl) ⟨hc1, hs1⟩ dL_law_282 (fun H locs hP hD hS => ?_)
    refine lv_istore (lv' := [(6, .int 1), (5, .int (nI (4 * q))), (4, .ref a.oD), (3, .ref a.oA), (2, .ref a.am), (1, .ref a.aX), (0, .ref b)]) hx hb dL_law_285 hl (by decide) rfl (fun ls hl => ?_)
    refine lv_aload_n hx hb dL_law_287 rfl (lv_at hl 4 rfl) ?_
    refine lw_m (s1 := S9) (t1 := s9) (Wn := (LCh cy a S9 S9)) hC (c_X8_addBath_no l G cy a.am a.aS a.aBf a.aAs a.aSv a.aPa a.aOu a.aTx a.aCo s9.ct s9.nb s9.LN ((s9.x0).1) s9.CM s9.hs s9.th (bI (s9.x0).2) s9.ep s9.fc s9.σ s9.fB hI.1.1 (by rw [if_neg h5]; decide)) (cwV 0 hC.S9.2.2.2.2 gL_law_X8_addBath rfl rfl rfl (by decide +kernel) ⟨Nat.le_of_ble_eq_true rfl, Nat.le_of_ble_eq_true rfl⟩) [15, 16, 17] rfl (by decide) (SameR.cons (SameR.cons (SameR.cons SameR.nil))) (by subst eS; rfl) hP hD hS rfl hl.1 rfl (Nat.le_of_ble_eq_true rfl) ⟨hc1, hs1⟩ dL_law_288 (fun H locs hP hD hS => ?_)
    refine lv_istore (lv' := [(7, .int 0), (6, .int 1), (5, .int (nI (4 * q))), (4, .ref a.oD), (3, .ref a.oA), (2, .ref a.am), (1, .ref a.aX), (0, .ref b)]) hx hb dL_law_291 hl (by decide) rfl (fun ls hl => ?_)
    refine lv_aload_n hx hb dL_law_293 rfl (lv_at hl 5 rfl) ?_
    refine lw_thrown (s1 := S9) (t1 := S9) (k := 1) hC hP (by subst eS; rfl) hl.1 (Nat.le_of_ble_eq_true rfl) ⟨hc1, hs1⟩ dL_law_294 ?_
    refine lv_iload hx hb dL_law_297 (lv_at hl 1 rfl) ?_
    refine lv_icmp_eq (tgt := 304) hx hb dL_law_299 (by decide) (fun c_299 => ?_) (fun c_299 => ?_)
    rotate_left
    · exact absurd c_299 (by decide)
    refine lv_iload hx hb dL_law_304 (lv_at hl 1 rfl) ?_
    refine lv_if_ne (tgt := 321) hx hb dL_law_306 (by decide) (fun c_306 => ?_) (fun c_306 => ?_)
    rotate_left
    · exact absurd c_306 (by decide)
    refine lv_goto (tgt := 2890) hx hb dL_law_321 (by decide) ?_
    exact kk S9 H locs ls (LI.of (LI.mono hI (by omega)) (by subst eS; rfl) (by subst eS; rfl) (by subst eS; rfl) (by subst eS; rfl) (by subst eS; rfl) (by subst eS; rfl) (by subst eS; rfl) (by subst eS; rfl) (by subst eS; rfl) (by subst eS; rfl) (by subst eS; rfl) (by subst eS; rfl) (by subst eS; rfl) (by subst eS; rfl) (by subst eS; rfl)) hP hD hS (lv_sub hl [2, 3, 4, 5, 6, 7] rfl)

set_option maxRecDepth 100000 in
set_option maxHeartbeats 4000000 in
theorem case_1 {p : Program} {l : Launch} {e : Env} {s : State} {m : MethodId} {below : List Frame} {meth : Method} {cq : Code} {G : va_G} {cy : Nat → ClassId} {kS vS : Nat → Nat} {A : Nat → Prop} {a : LA} {b L q : Nat} {xs : Nat → Int32} {Q : State → Prop} {n0 cells slots : Nat} (hC : LC l p s m meth cq G cy kS vS A b L xs) (hq : 4 * q + 4 ≤ L) (hn0 : n0 < 1000000) (hc1 : cells + 1 ≤ room_1.cells) (hs1 : slots + 6 ≤ room_1.slots) (kk : LGo p l e s m below meth cq G cy A a b q Q (n0 + 300) (cells + 1) (slots + 6) 2890) : LGo p l e s m below meth cq G cy A a b q Q n0 cells slots 324 := by
  intro s9 H locs ls hI hP hD hS hl
  obtain ⟨hx, hb, hml, hown, hts⟩ := id hC.S9
  have hL9 := hC.hL
  have hc0 : cells + 0 ≤ room_1.cells := Nat.le_of_succ_le hc1
  have hcn : cells ≤ room_1.cells := Nat.le_of_succ_le hc1
  have hs0 : slots + 0 ≤ room_1.slots := Nat.le_trans (Nat.le_add_right slots 6) hs1
  have hsn : slots ≤ room_1.slots := Nat.le_trans (Nat.le_add_right slots 6) hs1
  have ho := hI.1.1
  have hN0 := ho.1
  have hM0 := ho.2.1
  have hE0 := ho.2.2.1
  have hnx := hI.2.2.2.2.1
  have hct := hI.2.2.2.2.2.1
  rcases filF_v (nB s9.σ) (vB s9.σ) (xs (4 * q + 1)) (xs (4 * q + 2)) (xs (4 * q + 3)) with z0 | z1 | z2 | z5
  · obtain ⟨⟨e1, hj⟩, q3, q4, q5⟩ := filF_0 hN0 z0
    obtain ⟨S9, eS⟩ : ∃ z : LwS, z = (LwS.mk (filS (bx (xs (4 * q + 1))) (xs (4 * q + 3)) (xs (4 * q + 3) * (10 + 30 * xs (4 * q + 2))) s9.σ) s9.υ s9.ς s9.hs s9.ep s9.fc s9.ml 0 ((s9.nx + 1) % 8) (kInc s9.ct) s9.nb s9.n s9.LN s9.CM (updR s9.ρ s9.nx s9.σ) s9.x s9.x0 s9.f s9.gk s9.g1 s9.g2 s9.g3 s9.fb (encS s9.σ) s9.fA s9.fV (pastP s9.ct s9.fP (encS s9.σ)) s9.fO s9.g (fun _ => (vB (filS (bx (xs (4 * q + 1))) (xs (4 * q + 3)) (xs (4 * q + 3) * (10 + 30 * xs (4 * q + 2))) s9.σ) (bx (xs (4 * q + 1)))).toInt64) s9.fd) := ⟨_, rfl⟩
    refine lv_aload_n hx hb dL_law_324 rfl (lv_at hl 4 rfl) ?_
    refine lv_aload_n hx hb dL_law_325 rfl (lv_at hl 5 rfl) ?_
    refine lv_iload hx hb dL_law_326 (lv_at hl 0 rfl) ?_
    refine lv_iconst (v := 1) hx hb dL_law_328 (by decide) ?_
    refine lv_iadd hx hb dL_law_329 ?_
    refine m_sld (v := nI (bx (xs (4 * q + 1)))) hx hb hC.hX hC.hbl hC.hbA hS (k := 4 * q + 1) (m_add rfl rfl) (by omega) hC.hL e1 dL_law_330 ?_
    refine lv_aload_n hx hb dL_law_331 rfl (lv_at hl 5 rfl) ?_
    refine lv_iload hx hb dL_law_332 (lv_at hl 0 rfl) ?_
    refine lv_iconst (v := 2) hx hb dL_law_334 (by decide) ?_
    refine lv_iadd hx hb dL_law_335 ?_
    refine m_sld (v := xs (4 * q + 2)) hx hb hC.hX hC.hbl hC.hbA hS (k := 4 * q + 2) (m_add rfl rfl) (by omega) hC.hL rfl dL_law_336 ?_
    refine lv_aload_n hx hb dL_law_337 rfl (lv_at hl 5 rfl) ?_
    refine lv_iload hx hb dL_law_338 (lv_at hl 0 rfl) ?_
    refine lv_iconst (v := 3) hx hb dL_law_340 (by decide) ?_
    refine lv_iadd hx hb dL_law_341 ?_
    refine m_sld (v := xs (4 * q + 3)) hx hb hC.hX hC.hbl hC.hbA hS (k := 4 * q + 3) (m_add rfl rfl) (by omega) hC.hL rfl dL_law_342 ?_
    refine lv_aload_n hx hb dL_law_343 rfl (lv_at hl 2 rfl) ?_
    refine lw_w (mc := 0) (ms := 0) (Wc := (LCh cy a s9 s9)) (Wn := (LCh cy a S9 s9)) hC (w_runTap_ok l G cy kS vS a.aX a.na a.tr a.sn s9.hs a.hi a.sc s9.ep s9.fc a.ob a.hA s9.nx s9.ct a.ra s9.ρ s9.σ (bx (xs (4 * q + 1))) (xs (4 * q + 2)) (xs (4 * q + 3)) a.oA s9.fo hI.1.1 hnx hct hj q3 (by rw [← e1]; exact z0)) (vx_cwSW 5 hC.S9.2.2.2.2 gL_law_L_runTap rfl rfl rfl (by decide +kernel) ⟨Nat.le_of_ble_eq_true rfl, Nat.le_of_ble_eq_true rfl⟩) [0, 1, 4, 5, 6, 24] rfl (by decide) (SameL.cons SameA.rf (SameL.cons SameA.st (SameL.cons SameA.one (SameL.cons SameA.rf (SameL.cons SameA.ring (SameL.cons SameA.one SameL.nil)))))) (by subst eS; rfl) hP hD hS rfl hl.1 rfl (Nat.le_of_ble_eq_true rfl) ⟨hc0, hs0⟩ dL_law_344 (fun H locs hP hD hS => ?_)
    refine lv_istore (lv' := [(6, .int 0), (5, .int (nI (4 * q))), (4, .ref a.oD), (3, .ref a.oA), (2, .ref a.am), (1, .ref a.aX), (0, .ref b)]) hx hb dL_law_347 hl (by decide) rfl (fun ls hl => ?_)
    refine lv_aload_n hx hb dL_law_349 rfl (lv_at hl 4 rfl) ?_
    refine lv_aload_n hx hb dL_law_350 rfl (lv_at hl 6 rfl) ?_
    refine lv_iload hx hb dL_law_351 (lv_at hl 1 rfl) ?_
    refine lv_iconst (v := 1) hx hb dL_law_353 (by decide) ?_
    refine lv_iadd hx hb dL_law_354 ?_
    refine m_sld (v := xs (4 * q + 1)) hx hb hC.hX hC.hbl hC.hbA hS (k := 4 * q + 1) (m_add rfl rfl) (by omega) hC.hL rfl dL_law_355 ?_
    refine lv_aload_n hx hb dL_law_356 rfl (lv_at hl 6 rfl) ?_
    refine lv_iload hx hb dL_law_357 (lv_at hl 1 rfl) ?_
    refine lv_iconst (v := 2) hx hb dL_law_359 (by decide) ?_
    refine lv_iadd hx hb dL_law_360 ?_
    refine m_sld (v := xs (4 * q + 2)) hx hb hC.hX hC.hbl hC.hbA hS (k := 4 * q + 2) (m_add rfl rfl) (by omega) hC.hL rfl dL_law_361 ?_
    refine lv_aload_n hx hb dL_law_362 rfl (lv_at hl 6 rfl) ?_
    refine lv_iload hx hb dL_law_363 (lv_at hl 1 rfl) ?_
    refine lv_iconst (v := 3) hx hb dL_law_365 (by decide) ?_
    refine lv_iadd hx hb dL_law_366 ?_
    refine m_sld (v := xs (4 * q + 3)) hx hb hC.hX hC.hbl hC.hbA hS (k := 4 * q + 3) (m_add rfl rfl) (by omega) hC.hL rfl dL_law_367 ?_
    refine lw_m (s1 := S9) (t1 := s9) (Wn := (LCh cy a S9 S9)) hC (c_X8_runTap_ok l G cy a.am a.aS a.aBf a.aAs a.aSv a.aPa a.aOu a.aTx a.aCo s9.ct s9.nb s9.LN ((s9.x0).1) s9.CM s9.hs s9.th (bI (s9.x0).2) s9.ep s9.fc s9.σ (xs (4 * q + 1)) (xs (4 * q + 2)) (xs (4 * q + 3)) s9.fB s9.fP hI.1.1 hct e1 (inR_m1 (by decide) q4) z0) (cwV 3 hC.S9.2.2.2.2 gL_law_X8_runTap rfl rfl rfl (by decide +kernel) ⟨Nat.le_of_ble_eq_true rfl, Nat.le_of_ble_eq_true rfl⟩) [15, 16, 17, 20] rfl (by decide) (SameR.cons (SameR.cons (SameR.cons (SameR.cons SameR.nil)))) (by subst eS; rfl) hP hD hS rfl hl.1 rfl (Nat.le_of_ble_eq_true rfl) ⟨hcn, hsn⟩ dL_law_368 (fun H locs hP hD hS => ?_)
    refine lv_istore (lv' := [(7, .int (vB s9.σ (bx (xs (4 * q + 1))) + (xs (4 * q + 3)))), (6, .int 0), (5, .int (nI (4 * q))), (4, .ref a.oD), (3, .ref a.oA), (2, .ref a.am), (1, .ref a.aX), (0, .ref b)]) hx hb dL_law_371 hl (by decide) rfl (fun ls hl => ?_)
    refine lv_aload_n hx hb dL_law_373 rfl (lv_at hl 5 rfl) ?_
    refine lw_thrown (s1 := S9) (t1 := S9) (k := 0) hC hP (by subst eS; rfl) hl.1 (Nat.le_of_ble_eq_true rfl) ⟨hcn, hsn⟩ dL_law_374 ?_
    refine lv_iload hx hb dL_law_377 (lv_at hl 1 rfl) ?_
    refine lv_icmp_eq (tgt := 384) hx hb dL_law_379 (by decide) (fun c_379 => ?_) (fun c_379 => ?_)
    rotate_left
    · exact absurd c_379 (by decide)
    refine lv_iload hx hb dL_law_384 (lv_at hl 1 rfl) ?_
    refine lv_if_ne (tgt := 401) hx hb dL_law_386 (by decide) (fun c_386 => ?_) (fun c_386 => ?_)
    · exact absurd c_386 (by decide)
    refine lv_aload_n hx hb dL_law_389 rfl (lv_at hl 4 rfl) ?_
    refine lv_iconst (v := 0) hx hb dL_law_390 (by decide) ?_
    refine lw_ldL (s1 := S9) (t1 := S9) (x := (vB (filS (bx (xs (4 * q + 1))) (xs (4 * q + 3)) (xs (4 * q + 3) * (10 + 30 * xs (4 * q + 2))) s9.σ) (bx (xs (4 * q + 1)))).toInt64) hC hP (by subst eS; rfl) dL_law_391 ?_
    refine lv_iload hx hb dL_law_392 (lv_at hl 0 rfl) ?_
    refine lv_i2l hx hb dL_law_394 rfl ?_
    refine m_lcmp0 hx hb (congrArg Int32.toInt64 m_updS) dL_law_395 ?_
    refine lv_if_eq (tgt := 401) hx hb dL_law_396 (by decide) (fun c_396 => ?_) (fun c_396 => ?_)
    rotate_left
    · exact absurd c_396 (by decide)
    refine lv_goto (tgt := 2890) hx hb dL_law_401 (by decide) ?_
    refine W.widen (k := cells + 1) (n := slots + 6) (by omega) (by omega) ?_
    exact kk S9 H locs ls (LI.of (LI.push (σ' := filS (bx (xs (4 * q + 1))) (xs (4 * q + 3)) (xs (4 * q + 3) * (10 + 30 * xs (4 * q + 2))) s9.σ) hI (by have h9 := appC_inv (k := 1) (a := xs (4 * q + 1)) (b := xs (4 * q + 2)) (c := xs (4 * q + 3)) hI.1 (by omega) (fltC_1.trans z0); rw [appC_1] at h9; exact h9.mono (by omega))) (by subst eS; rfl) (by subst eS; rfl) (by subst eS; rfl) (by subst eS; rfl) (by subst eS; rfl) (by subst eS; rfl) (by subst eS; rfl) (by subst eS; rfl) (by subst eS; rfl) (by subst eS; rfl) (by subst eS; rfl) (by subst eS; rfl) (by subst eS; rfl) (by subst eS; rfl) (by subst eS; rfl)) hP hD hS (lv_sub hl [2, 3, 4, 5, 6, 7] rfl)
  · obtain ⟨S9, eS⟩ : ∃ z : LwS, z = (LwS.mk s9.σ s9.υ s9.ς s9.hs s9.ep s9.fc s9.ml (mcT (filF (nB s9.σ) (vB s9.σ) (xs (4 * q + 1)) (xs (4 * q + 2)) (xs (4 * q + 3)))) s9.nx s9.ct s9.nb s9.n s9.LN s9.CM s9.ρ s9.x s9.x0 s9.f s9.gk s9.g1 s9.g2 s9.g3 s9.fb (encS s9.σ) s9.fA s9.fV s9.fP s9.fO s9.g s9.fo s9.fd) := ⟨_, rfl⟩
    refine lv_aload_n hx hb dL_law_324 rfl (lv_at hl 4 rfl) ?_
    refine lv_aload_n hx hb dL_law_325 rfl (lv_at hl 5 rfl) ?_
    refine lv_iload hx hb dL_law_326 (lv_at hl 0 rfl) ?_
    refine lv_iconst (v := 1) hx hb dL_law_328 (by decide) ?_
    refine lv_iadd hx hb dL_law_329 ?_
    refine m_sld (v := xs (4 * q + 1)) hx hb hC.hX hC.hbl hC.hbA hS (k := 4 * q + 1) (m_add rfl rfl) (by omega) hC.hL rfl dL_law_330 ?_
    refine lv_aload_n hx hb dL_law_331 rfl (lv_at hl 5 rfl) ?_
    refine lv_iload hx hb dL_law_332 (lv_at hl 0 rfl) ?_
    refine lv_iconst (v := 2) hx hb dL_law_334 (by decide) ?_
    refine lv_iadd hx hb dL_law_335 ?_
    refine m_sld (v := xs (4 * q + 2)) hx hb hC.hX hC.hbl hC.hbA hS (k := 4 * q + 2) (m_add rfl rfl) (by omega) hC.hL rfl dL_law_336 ?_
    refine lv_aload_n hx hb dL_law_337 rfl (lv_at hl 5 rfl) ?_
    refine lv_iload hx hb dL_law_338 (lv_at hl 0 rfl) ?_
    refine lv_iconst (v := 3) hx hb dL_law_340 (by decide) ?_
    refine lv_iadd hx hb dL_law_341 ?_
    refine m_sld (v := xs (4 * q + 3)) hx hb hC.hX hC.hbl hC.hbA hS (k := 4 * q + 3) (m_add rfl rfl) (by omega) hC.hL rfl dL_law_342 ?_
    refine lv_aload_n hx hb dL_law_343 rfl (lv_at hl 2 rfl) ?_
    refine lw_w (mc := 1) (ms := 6) (Wc := (LCh cy a s9 s9)) (Wn := (LCh cy a S9 s9)) hC (w_runTap_1 l G cy kS vS a.aX a.na a.tr a.sn s9.hs a.hi a.sc s9.ep s9.fc a.ob s9.σ (xs (4 * q + 1)) (xs (4 * q + 2)) (xs (4 * q + 3)) a.oA s9.fo hC.hl9 hI.1.1 z1) (vx_cwSW 5 hC.S9.2.2.2.2 gL_law_L_runTap rfl rfl rfl (by decide +kernel) ⟨Nat.le_of_ble_eq_true rfl, Nat.le_of_ble_eq_true rfl⟩) [0, 1, 24] rfl (by decide) (SameL.cons SameA.rf (SameL.cons SameA.rf (SameL.cons SameA.rf SameL.nil))) (by subst eS; rfl) hP hD hS rfl hl.1 rfl (Nat.le_of_ble_eq_true rfl) ⟨hc1, hs1⟩ dL_law_344 (fun H locs hP hD hS => ?_)
    refine lv_istore (lv' := [(6, .int 1), (5, .int (nI (4 * q))), (4, .ref a.oD), (3, .ref a.oA), (2, .ref a.am), (1, .ref a.aX), (0, .ref b)]) hx hb dL_law_347 hl (by decide) rfl (fun ls hl => ?_)
    refine lv_aload_n hx hb dL_law_349 rfl (lv_at hl 4 rfl) ?_
    refine lv_aload_n hx hb dL_law_350 rfl (lv_at hl 6 rfl) ?_
    refine lv_iload hx hb dL_law_351 (lv_at hl 1 rfl) ?_
    refine lv_iconst (v := 1) hx hb dL_law_353 (by decide) ?_
    refine lv_iadd hx hb dL_law_354 ?_
    refine m_sld (v := xs (4 * q + 1)) hx hb hC.hX hC.hbl hC.hbA hS (k := 4 * q + 1) (m_add rfl rfl) (by omega) hC.hL rfl dL_law_355 ?_
    refine lv_aload_n hx hb dL_law_356 rfl (lv_at hl 6 rfl) ?_
    refine lv_iload hx hb dL_law_357 (lv_at hl 1 rfl) ?_
    refine lv_iconst (v := 2) hx hb dL_law_359 (by decide) ?_
    refine lv_iadd hx hb dL_law_360 ?_
    refine m_sld (v := xs (4 * q + 2)) hx hb hC.hX hC.hbl hC.hbA hS (k := 4 * q + 2) (m_add rfl rfl) (by omega) hC.hL rfl dL_law_361 ?_
    refine lv_aload_n hx hb dL_law_362 rfl (lv_at hl 6 rfl) ?_
    refine lv_iload hx hb dL_law_363 (lv_at hl 1 rfl) ?_
    refine lv_iconst (v := 3) hx hb dL_law_365 (by decide) ?_
    refine lv_iadd hx hb dL_law_366 ?_
    refine m_sld (v := xs (4 * q + 3)) hx hb hC.hX hC.hbl hC.hbA hS (k := 4 * q + 3) (m_add rfl rfl) (by omega) hC.hL rfl dL_law_367 ?_
    refine lw_m (s1 := S9) (t1 := s9) (Wn := (LCh cy a S9 S9)) hC (c_X8_runTap_no l G cy a.am a.aS a.aBf a.aAs a.aSv a.aPa a.aOu a.aTx a.aCo s9.ct s9.nb s9.LN ((s9.x0).1) s9.CM s9.hs s9.th (bI (s9.x0).2) s9.ep s9.fc s9.σ (xs (4 * q + 1)) (xs (4 * q + 2)) (xs (4 * q + 3)) s9.fB hI.1.1 (by rw [z1]; decide) (by rw [z1]; decide)) (cwV 3 hC.S9.2.2.2.2 gL_law_X8_runTap rfl rfl rfl (by decide +kernel) ⟨Nat.le_of_ble_eq_true rfl, Nat.le_of_ble_eq_true rfl⟩) [15, 16, 17] rfl (by decide) (SameR.cons (SameR.cons (SameR.cons SameR.nil))) (by subst eS; rfl) hP hD hS rfl hl.1 rfl (Nat.le_of_ble_eq_true rfl) ⟨hc1, hs1⟩ dL_law_368 (fun H locs hP hD hS => ?_)
    refine lv_istore (lv' := [(7, .int 0), (6, .int 1), (5, .int (nI (4 * q))), (4, .ref a.oD), (3, .ref a.oA), (2, .ref a.am), (1, .ref a.aX), (0, .ref b)]) hx hb dL_law_371 hl (by decide) rfl (fun ls hl => ?_)
    refine lv_aload_n hx hb dL_law_373 rfl (lv_at hl 5 rfl) ?_
    refine lw_thrown (s1 := S9) (t1 := S9) (k := mcT (filF (nB s9.σ) (vB s9.σ) (xs (4 * q + 1)) (xs (4 * q + 2)) (xs (4 * q + 3)))) hC hP (by subst eS; rfl) hl.1 (Nat.le_of_ble_eq_true rfl) ⟨hc1, hs1⟩ dL_law_374 ?_
    refine lv_iload hx hb dL_law_377 (lv_at hl 1 rfl) ?_
    refine lv_icmp_eq (tgt := 384) hx hb dL_law_379 (by decide) (fun c_379 => ?_) (fun c_379 => ?_)
    rotate_left
    · exact absurd (by rw [z1]; rfl) c_379
    refine lv_iload hx hb dL_law_384 (lv_at hl 1 rfl) ?_
    refine lv_if_ne (tgt := 401) hx hb dL_law_386 (by decide) (fun c_386 => ?_) (fun c_386 => ?_)
    rotate_left
    · exact absurd c_386 (by decide)
    refine lv_goto (tgt := 2890) hx hb dL_law_401 (by decide) ?_
    exact kk S9 H locs ls (LI.of (LI.mono hI (by omega)) (by subst eS; rfl) (by subst eS; rfl) (by subst eS; rfl) (by subst eS; rfl) (by subst eS; rfl) (by subst eS; rfl) (by subst eS; rfl) (by subst eS; rfl) (by subst eS; rfl) (by subst eS; rfl) (by subst eS; rfl) (by subst eS; rfl) (by subst eS; rfl) (by subst eS; rfl) (by subst eS; rfl)) hP hD hS (lv_sub hl [2, 3, 4, 5, 6, 7] rfl)
  · obtain ⟨S9, eS⟩ : ∃ z : LwS, z = (LwS.mk s9.σ s9.υ s9.ς s9.hs s9.ep s9.fc s9.ml (mcT (filF (nB s9.σ) (vB s9.σ) (xs (4 * q + 1)) (xs (4 * q + 2)) (xs (4 * q + 3)))) s9.nx s9.ct s9.nb s9.n s9.LN s9.CM s9.ρ s9.x s9.x0 s9.f s9.gk s9.g1 s9.g2 s9.g3 s9.fb (encS s9.σ) s9.fA s9.fV s9.fP s9.fO s9.g s9.fo s9.fd) := ⟨_, rfl⟩
    refine lv_aload_n hx hb dL_law_324 rfl (lv_at hl 4 rfl) ?_
    refine lv_aload_n hx hb dL_law_325 rfl (lv_at hl 5 rfl) ?_
    refine lv_iload hx hb dL_law_326 (lv_at hl 0 rfl) ?_
    refine lv_iconst (v := 1) hx hb dL_law_328 (by decide) ?_
    refine lv_iadd hx hb dL_law_329 ?_
    refine m_sld (v := xs (4 * q + 1)) hx hb hC.hX hC.hbl hC.hbA hS (k := 4 * q + 1) (m_add rfl rfl) (by omega) hC.hL rfl dL_law_330 ?_
    refine lv_aload_n hx hb dL_law_331 rfl (lv_at hl 5 rfl) ?_
    refine lv_iload hx hb dL_law_332 (lv_at hl 0 rfl) ?_
    refine lv_iconst (v := 2) hx hb dL_law_334 (by decide) ?_
    refine lv_iadd hx hb dL_law_335 ?_
    refine m_sld (v := xs (4 * q + 2)) hx hb hC.hX hC.hbl hC.hbA hS (k := 4 * q + 2) (m_add rfl rfl) (by omega) hC.hL rfl dL_law_336 ?_
    refine lv_aload_n hx hb dL_law_337 rfl (lv_at hl 5 rfl) ?_
    refine lv_iload hx hb dL_law_338 (lv_at hl 0 rfl) ?_
    refine lv_iconst (v := 3) hx hb dL_law_340 (by decide) ?_
    refine lv_iadd hx hb dL_law_341 ?_
    refine m_sld (v := xs (4 * q + 3)) hx hb hC.hX hC.hbl hC.hbA hS (k := 4 * q + 3) (m_add rfl rfl) (by omega) hC.hL rfl dL_law_342 ?_
    refine lv_aload_n hx hb dL_law_343 rfl (lv_at hl 2 rfl) ?_
    refine lw_w (mc := 1) (ms := 6) (Wc := (LCh cy a s9 s9)) (Wn := (LCh cy a S9 s9)) hC (w_runTap_2 l G cy kS vS a.aX a.na a.tr a.sn s9.hs a.hi a.sc s9.ep s9.fc a.ob s9.σ (xs (4 * q + 1)) (xs (4 * q + 2)) (xs (4 * q + 3)) a.oA s9.fo hC.hl9 hI.1.1 z2) (vx_cwSW 5 hC.S9.2.2.2.2 gL_law_L_runTap rfl rfl rfl (by decide +kernel) ⟨Nat.le_of_ble_eq_true rfl, Nat.le_of_ble_eq_true rfl⟩) [0, 1, 24] rfl (by decide) (SameL.cons SameA.rf (SameL.cons SameA.rf (SameL.cons SameA.rf SameL.nil))) (by subst eS; rfl) hP hD hS rfl hl.1 rfl (Nat.le_of_ble_eq_true rfl) ⟨hc1, hs1⟩ dL_law_344 (fun H locs hP hD hS => ?_)
    refine lv_istore (lv' := [(6, .int 2), (5, .int (nI (4 * q))), (4, .ref a.oD), (3, .ref a.oA), (2, .ref a.am), (1, .ref a.aX), (0, .ref b)]) hx hb dL_law_347 hl (by decide) rfl (fun ls hl => ?_)
    refine lv_aload_n hx hb dL_law_349 rfl (lv_at hl 4 rfl) ?_
    refine lv_aload_n hx hb dL_law_350 rfl (lv_at hl 6 rfl) ?_
    refine lv_iload hx hb dL_law_351 (lv_at hl 1 rfl) ?_
    refine lv_iconst (v := 1) hx hb dL_law_353 (by decide) ?_
    refine lv_iadd hx hb dL_law_354 ?_
    refine m_sld (v := xs (4 * q + 1)) hx hb hC.hX hC.hbl hC.hbA hS (k := 4 * q + 1) (m_add rfl rfl) (by omega) hC.hL rfl dL_law_355 ?_
    refine lv_aload_n hx hb dL_law_356 rfl (lv_at hl 6 rfl) ?_
    refine lv_iload hx hb dL_law_357 (lv_at hl 1 rfl) ?_
    refine lv_iconst (v := 2) hx hb dL_law_359 (by decide) ?_
    refine lv_iadd hx hb dL_law_360 ?_
    refine m_sld (v := xs (4 * q + 2)) hx hb hC.hX hC.hbl hC.hbA hS (k := 4 * q + 2) (m_add rfl rfl) (by omega) hC.hL rfl dL_law_361 ?_
    refine lv_aload_n hx hb dL_law_362 rfl (lv_at hl 6 rfl) ?_
    refine lv_iload hx hb dL_law_363 (lv_at hl 1 rfl) ?_
    refine lv_iconst (v := 3) hx hb dL_law_365 (by decide) ?_
    refine lv_iadd hx hb dL_law_366 ?_
    refine m_sld (v := xs (4 * q + 3)) hx hb hC.hX hC.hbl hC.hbA hS (k := 4 * q + 3) (m_add rfl rfl) (by omega) hC.hL rfl dL_law_367 ?_
    refine lw_m (s1 := S9) (t1 := s9) (Wn := (LCh cy a S9 S9)) hC (c_X8_runTap_no l G cy a.am a.aS a.aBf a.aAs a.aSv a.aPa a.aOu a.aTx a.aCo s9.ct s9.nb s9.LN ((s9.x0).1) s9.CM s9.hs s9.th (bI (s9.x0).2) s9.ep s9.fc s9.σ (xs (4 * q + 1)) (xs (4 * q + 2)) (xs (4 * q + 3)) s9.fB hI.1.1 (by rw [z2]; decide) (by rw [z2]; decide)) (cwV 3 hC.S9.2.2.2.2 gL_law_X8_runTap rfl rfl rfl (by decide +kernel) ⟨Nat.le_of_ble_eq_true rfl, Nat.le_of_ble_eq_true rfl⟩) [15, 16, 17] rfl (by decide) (SameR.cons (SameR.cons (SameR.cons SameR.nil))) (by subst eS; rfl) hP hD hS rfl hl.1 rfl (Nat.le_of_ble_eq_true rfl) ⟨hc1, hs1⟩ dL_law_368 (fun H locs hP hD hS => ?_)
    refine lv_istore (lv' := [(7, .int 0), (6, .int 2), (5, .int (nI (4 * q))), (4, .ref a.oD), (3, .ref a.oA), (2, .ref a.am), (1, .ref a.aX), (0, .ref b)]) hx hb dL_law_371 hl (by decide) rfl (fun ls hl => ?_)
    refine lv_aload_n hx hb dL_law_373 rfl (lv_at hl 5 rfl) ?_
    refine lw_thrown (s1 := S9) (t1 := S9) (k := mcT (filF (nB s9.σ) (vB s9.σ) (xs (4 * q + 1)) (xs (4 * q + 2)) (xs (4 * q + 3)))) hC hP (by subst eS; rfl) hl.1 (Nat.le_of_ble_eq_true rfl) ⟨hc1, hs1⟩ dL_law_374 ?_
    refine lv_iload hx hb dL_law_377 (lv_at hl 1 rfl) ?_
    refine lv_icmp_eq (tgt := 384) hx hb dL_law_379 (by decide) (fun c_379 => ?_) (fun c_379 => ?_)
    rotate_left
    · exact absurd (by rw [z2]; rfl) c_379
    refine lv_iload hx hb dL_law_384 (lv_at hl 1 rfl) ?_
    refine lv_if_ne (tgt := 401) hx hb dL_law_386 (by decide) (fun c_386 => ?_) (fun c_386 => ?_)
    rotate_left
    · exact absurd c_386 (by decide)
    refine lv_goto (tgt := 2890) hx hb dL_law_401 (by decide) ?_
    exact kk S9 H locs ls (LI.of (LI.mono hI (by omega)) (by subst eS; rfl) (by subst eS; rfl) (by subst eS; rfl) (by subst eS; rfl) (by subst eS; rfl) (by subst eS; rfl) (by subst eS; rfl) (by subst eS; rfl) (by subst eS; rfl) (by subst eS; rfl) (by subst eS; rfl) (by subst eS; rfl) (by subst eS; rfl) (by subst eS; rfl) (by subst eS; rfl)) hP hD hS (lv_sub hl [2, 3, 4, 5, 6, 7] rfl)
  · obtain ⟨S9, eS⟩ : ∃ z : LwS, z = (LwS.mk s9.σ s9.υ s9.ς s9.hs s9.ep s9.fc s9.ml (mcT (filF (nB s9.σ) (vB s9.σ) (xs (4 * q + 1)) (xs (4 * q + 2)) (xs (4 * q + 3)))) s9.nx s9.ct s9.nb s9.n s9.LN s9.CM s9.ρ s9.x s9.x0 s9.f s9.gk s9.g1 s9.g2 s9.g3 s9.fb (encS s9.σ) s9.fA s9.fV s9.fP s9.fO s9.g s9.fo s9.fd) := ⟨_, rfl⟩
    refine lv_aload_n hx hb dL_law_324 rfl (lv_at hl 4 rfl) ?_
    refine lv_aload_n hx hb dL_law_325 rfl (lv_at hl 5 rfl) ?_
    refine lv_iload hx hb dL_law_326 (lv_at hl 0 rfl) ?_
    refine lv_iconst (v := 1) hx hb dL_law_328 (by decide) ?_
    refine lv_iadd hx hb dL_law_329 ?_
    refine m_sld (v := xs (4 * q + 1)) hx hb hC.hX hC.hbl hC.hbA hS (k := 4 * q + 1) (m_add rfl rfl) (by omega) hC.hL rfl dL_law_330 ?_
    refine lv_aload_n hx hb dL_law_331 rfl (lv_at hl 5 rfl) ?_
    refine lv_iload hx hb dL_law_332 (lv_at hl 0 rfl) ?_
    refine lv_iconst (v := 2) hx hb dL_law_334 (by decide) ?_
    refine lv_iadd hx hb dL_law_335 ?_
    refine m_sld (v := xs (4 * q + 2)) hx hb hC.hX hC.hbl hC.hbA hS (k := 4 * q + 2) (m_add rfl rfl) (by omega) hC.hL rfl dL_law_336 ?_
    refine lv_aload_n hx hb dL_law_337 rfl (lv_at hl 5 rfl) ?_
    refine lv_iload hx hb dL_law_338 (lv_at hl 0 rfl) ?_
    refine lv_iconst (v := 3) hx hb dL_law_340 (by decide) ?_
    refine lv_iadd hx hb dL_law_341 ?_
    refine m_sld (v := xs (4 * q + 3)) hx hb hC.hX hC.hbl hC.hbA hS (k := 4 * q + 3) (m_add rfl rfl) (by omega) hC.hL rfl dL_law_342 ?_
    refine lv_aload_n hx hb dL_law_343 rfl (lv_at hl 2 rfl) ?_
    refine lw_w (mc := 1) (ms := 6) (Wc := (LCh cy a s9 s9)) (Wn := (LCh cy a S9 s9)) hC (w_runTap_5 l G cy kS vS a.aX a.na a.tr a.sn s9.hs a.hi a.sc s9.ep s9.fc a.ob s9.σ (xs (4 * q + 1)) (xs (4 * q + 2)) (xs (4 * q + 3)) a.oA s9.fo hC.hl9 hI.1.1 z5) (vx_cwSW 5 hC.S9.2.2.2.2 gL_law_L_runTap rfl rfl rfl (by decide +kernel) ⟨Nat.le_of_ble_eq_true rfl, Nat.le_of_ble_eq_true rfl⟩) [0, 1, 24] rfl (by decide) (SameL.cons SameA.rf (SameL.cons SameA.rf (SameL.cons SameA.rf SameL.nil))) (by subst eS; rfl) hP hD hS rfl hl.1 rfl (Nat.le_of_ble_eq_true rfl) ⟨hc1, hs1⟩ dL_law_344 (fun H locs hP hD hS => ?_)
    refine lv_istore (lv' := [(6, .int 3), (5, .int (nI (4 * q))), (4, .ref a.oD), (3, .ref a.oA), (2, .ref a.am), (1, .ref a.aX), (0, .ref b)]) hx hb dL_law_347 hl (by decide) rfl (fun ls hl => ?_)
    refine lv_aload_n hx hb dL_law_349 rfl (lv_at hl 4 rfl) ?_
    refine lv_aload_n hx hb dL_law_350 rfl (lv_at hl 6 rfl) ?_
    refine lv_iload hx hb dL_law_351 (lv_at hl 1 rfl) ?_
    refine lv_iconst (v := 1) hx hb dL_law_353 (by decide) ?_
    refine lv_iadd hx hb dL_law_354 ?_
    refine m_sld (v := xs (4 * q + 1)) hx hb hC.hX hC.hbl hC.hbA hS (k := 4 * q + 1) (m_add rfl rfl) (by omega) hC.hL rfl dL_law_355 ?_
    refine lv_aload_n hx hb dL_law_356 rfl (lv_at hl 6 rfl) ?_
    refine lv_iload hx hb dL_law_357 (lv_at hl 1 rfl) ?_
    refine lv_iconst (v := 2) hx hb dL_law_359 (by decide) ?_
    refine lv_iadd hx hb dL_law_360 ?_
    refine m_sld (v := xs (4 * q + 2)) hx hb hC.hX hC.hbl hC.hbA hS (k := 4 * q + 2) (m_add rfl rfl) (by omega) hC.hL rfl dL_law_361 ?_
    refine lv_aload_n hx hb dL_law_362 rfl (lv_at hl 6 rfl) ?_
    refine lv_iload hx hb dL_law_363 (lv_at hl 1 rfl) ?_
    refine lv_iconst (v := 3) hx hb dL_law_365 (by decide) ?_
    refine lv_iadd hx hb dL_law_366 ?_
    refine m_sld (v := xs (4 * q + 3)) hx hb hC.hX hC.hbl hC.hbA hS (k := 4 * q + 3) (m_add rfl rfl) (by omega) hC.hL rfl dL_law_367 ?_
    refine lw_m (s1 := S9) (t1 := s9) (Wn := (LCh cy a S9 S9)) hC (c_X8_runTap_no l G cy a.am a.aS a.aBf a.aAs a.aSv a.aPa a.aOu a.aTx a.aCo s9.ct s9.nb s9.LN ((s9.x0).1) s9.CM s9.hs s9.th (bI (s9.x0).2) s9.ep s9.fc s9.σ (xs (4 * q + 1)) (xs (4 * q + 2)) (xs (4 * q + 3)) s9.fB hI.1.1 (by rw [z5]; decide) (by rw [z5]; decide)) (cwV 3 hC.S9.2.2.2.2 gL_law_X8_runTap rfl rfl rfl (by decide +kernel) ⟨Nat.le_of_ble_eq_true rfl, Nat.le_of_ble_eq_true rfl⟩) [15, 16, 17] rfl (by decide) (SameR.cons (SameR.cons (SameR.cons SameR.nil))) (by subst eS; rfl) hP hD hS rfl hl.1 rfl (Nat.le_of_ble_eq_true rfl) ⟨hc1, hs1⟩ dL_law_368 (fun H locs hP hD hS => ?_)
    refine lv_istore (lv' := [(7, .int 0), (6, .int 3), (5, .int (nI (4 * q))), (4, .ref a.oD), (3, .ref a.oA), (2, .ref a.am), (1, .ref a.aX), (0, .ref b)]) hx hb dL_law_371 hl (by decide) rfl (fun ls hl => ?_)
    refine lv_aload_n hx hb dL_law_373 rfl (lv_at hl 5 rfl) ?_
    refine lw_thrown (s1 := S9) (t1 := S9) (k := mcT (filF (nB s9.σ) (vB s9.σ) (xs (4 * q + 1)) (xs (4 * q + 2)) (xs (4 * q + 3)))) hC hP (by subst eS; rfl) hl.1 (Nat.le_of_ble_eq_true rfl) ⟨hc1, hs1⟩ dL_law_374 ?_
    refine lv_iload hx hb dL_law_377 (lv_at hl 1 rfl) ?_
    refine lv_icmp_eq (tgt := 384) hx hb dL_law_379 (by decide) (fun c_379 => ?_) (fun c_379 => ?_)
    rotate_left
    · exact absurd (by rw [z5]; rfl) c_379
    refine lv_iload hx hb dL_law_384 (lv_at hl 1 rfl) ?_
    refine lv_if_ne (tgt := 401) hx hb dL_law_386 (by decide) (fun c_386 => ?_) (fun c_386 => ?_)
    rotate_left
    · exact absurd c_386 (by decide)
    refine lv_goto (tgt := 2890) hx hb dL_law_401 (by decide) ?_
    exact kk S9 H locs ls (LI.of (LI.mono hI (by omega)) (by subst eS; rfl) (by subst eS; rfl) (by subst eS; rfl) (by subst eS; rfl) (by subst eS; rfl) (by subst eS; rfl) (by subst eS; rfl) (by subst eS; rfl) (by subst eS; rfl) (by subst eS; rfl) (by subst eS; rfl) (by subst eS; rfl) (by subst eS; rfl) (by subst eS; rfl) (by subst eS; rfl)) hP hD hS (lv_sub hl [2, 3, 4, 5, 6, 7] rfl)

set_option maxRecDepth 100000 in
set_option maxHeartbeats 4000000 in
theorem case_2 {p : Program} {l : Launch} {e : Env} {s : State} {m : MethodId} {below : List Frame} {meth : Method} {cq : Code} {G : va_G} {cy : Nat → ClassId} {kS vS : Nat → Nat} {A : Nat → Prop} {a : LA} {b L q : Nat} {xs : Nat → Int32} {Q : State → Prop} {n0 cells slots : Nat} (hC : LC l p s m meth cq G cy kS vS A b L xs) (hq : 4 * q + 4 ≤ L) (hn0 : n0 < 1000000) (hc1 : cells + 1 ≤ room_1.cells) (hs1 : slots + 6 ≤ room_1.slots) (kk : LGo p l e s m below meth cq G cy A a b q Q (n0 + 300) (cells + 1) (slots + 6) 2890) : LGo p l e s m below meth cq G cy A a b q Q n0 cells slots 404 := by
  intro s9 H locs ls hI hP hD hS hl
  obtain ⟨hx, hb, hml, hown, hts⟩ := id hC.S9
  have hL9 := hC.hL
  have hc0 : cells + 0 ≤ room_1.cells := Nat.le_of_succ_le hc1
  have hcn : cells ≤ room_1.cells := Nat.le_of_succ_le hc1
  have hs0 : slots + 0 ≤ room_1.slots := Nat.le_trans (Nat.le_add_right slots 6) hs1
  have hsn : slots ≤ room_1.slots := Nat.le_trans (Nat.le_add_right slots 6) hs1
  have ho := hI.1.1
  have hN0 := ho.1
  have hM0 := ho.2.1
  have hE0 := ho.2.2.1
  have hnx := hI.2.2.2.2.1
  have hct := hI.2.2.2.2.2.1
  by_cases hxf : xs (4 * q + 2) = 0
  · rcases plgF_v (nB s9.σ) (xs (4 * q + 1)) with z0 | z1
    · obtain ⟨e1, hj⟩ := plgF_0 hN0 z0
      by_cases hz : pB s9.σ (bx (xs (4 * q + 1))) = 0
      · obtain ⟨S9, eS⟩ : ∃ z : LwS, z = (LwS.mk (pluS (bx (xs (4 * q + 1))) 0 s9.σ) s9.υ s9.ς s9.hs s9.ep s9.fc s9.ml 0 ((s9.nx + 1) % 8) (kInc s9.ct) s9.nb s9.n s9.LN s9.CM (updR s9.ρ s9.nx s9.σ) s9.x s9.x0 s9.f s9.gk s9.g1 s9.g2 s9.g3 s9.fb (encS s9.σ) s9.fA s9.fV (pastP s9.ct s9.fP (encS s9.σ)) s9.fO s9.g (fun _ => vL (pB s9.σ (bx (xs (4 * q + 1))))) s9.fd) := ⟨_, rfl⟩
        refine lv_aload_n hx hb dL_law_404 rfl (lv_at hl 4 rfl) ?_
        refine lv_aload_n hx hb dL_law_405 rfl (lv_at hl 5 rfl) ?_
        refine lv_iload hx hb dL_law_406 (lv_at hl 0 rfl) ?_
        refine lv_iconst (v := 1) hx hb dL_law_408 (by decide) ?_
        refine lv_iadd hx hb dL_law_409 ?_
        refine m_sld (v := nI (bx (xs (4 * q + 1)))) hx hb hC.hX hC.hbl hC.hbA hS (k := 4 * q + 1) (m_add rfl rfl) (by omega) hC.hL e1 dL_law_410 ?_
        refine lv_aload_n hx hb dL_law_411 rfl (lv_at hl 5 rfl) ?_
        refine lv_iload hx hb dL_law_412 (lv_at hl 0 rfl) ?_
        refine lv_iconst (v := 2) hx hb dL_law_414 (by decide) ?_
        refine lv_iadd hx hb dL_law_415 ?_
        refine m_sld (v := xs (4 * q + 2)) hx hb hC.hX hC.hbl hC.hbA hS (k := 4 * q + 2) (m_add rfl rfl) (by omega) hC.hL rfl dL_law_416 ?_
        refine lv_if_eq (tgt := 424) hx hb dL_law_417 (by decide) (fun c_417 => ?_) (fun c_417 => ?_)
        rotate_left
        · exact absurd hxf c_417
        refine lv_iconst (v := 0) hx hb dL_law_424 (by decide) ?_
        refine lv_aload_n hx hb dL_law_425 rfl (lv_at hl 2 rfl) ?_
        refine lw_w (mc := 0) (ms := 0) (Wc := (LCh cy a s9 s9)) (Wn := (LCh cy a S9 s9)) hC (w_setPlug_ok l G cy kS vS a.aX a.na a.tr a.sn s9.hs a.hi a.sc s9.ep s9.fc a.ob a.hA s9.nx s9.ct a.ra s9.ρ s9.σ (bx (xs (4 * q + 1))) 0 a.oA s9.fo hI.1.1 hnx hct hj rfl (by rw [← e1]; exact z0)) (vx_cwSW 4 hC.S9.2.2.2.2 gL_law_L_setPlug rfl rfl rfl (by decide +kernel) ⟨Nat.le_of_ble_eq_true rfl, Nat.le_of_ble_eq_true rfl⟩) [0, 1, 4, 5, 6, 24] rfl (by decide) (SameL.cons SameA.rf (SameL.cons SameA.st (SameL.cons SameA.one (SameL.cons SameA.rf (SameL.cons SameA.ring (SameL.cons SameA.one SameL.nil)))))) (by subst eS; rfl) hP hD hS rfl hl.1 rfl (Nat.le_of_ble_eq_true rfl) ⟨hc0, hs0⟩ dL_law_426 (fun H locs hP hD hS => ?_)
        refine lv_istore (lv' := [(6, .int 0), (5, .int (nI (4 * q))), (4, .ref a.oD), (3, .ref a.oA), (2, .ref a.am), (1, .ref a.aX), (0, .ref b)]) hx hb dL_law_429 hl (by decide) rfl (fun ls hl => ?_)
        refine lv_aload_n hx hb dL_law_431 rfl (lv_at hl 4 rfl) ?_
        refine lv_aload_n hx hb dL_law_432 rfl (lv_at hl 6 rfl) ?_
        refine lv_iload hx hb dL_law_433 (lv_at hl 1 rfl) ?_
        refine lv_iconst (v := 1) hx hb dL_law_435 (by decide) ?_
        refine lv_iadd hx hb dL_law_436 ?_
        refine m_sld (v := xs (4 * q + 1)) hx hb hC.hX hC.hbl hC.hbA hS (k := 4 * q + 1) (m_add rfl rfl) (by omega) hC.hL rfl dL_law_437 ?_
        refine lv_aload_n hx hb dL_law_438 rfl (lv_at hl 6 rfl) ?_
        refine lv_iload hx hb dL_law_439 (lv_at hl 1 rfl) ?_
        refine lv_iconst (v := 2) hx hb dL_law_441 (by decide) ?_
        refine lv_iadd hx hb dL_law_442 ?_
        refine m_sld (v := xs (4 * q + 2)) hx hb hC.hX hC.hbl hC.hbA hS (k := 4 * q + 2) (m_add rfl rfl) (by omega) hC.hL rfl dL_law_443 ?_
        refine lv_if_eq (tgt := 451) hx hb dL_law_444 (by decide) (fun c_444 => ?_) (fun c_444 => ?_)
        rotate_left
        · exact absurd hxf c_444
        refine lv_iconst (v := 0) hx hb dL_law_451 (by decide) ?_
        refine lw_m (s1 := S9) (t1 := s9) (Wn := (LCh cy a S9 S9)) hC (c_X8_setPlug_ok l G cy a.am a.aS a.aBf a.aAs a.aSv a.aPa a.aOu a.aTx a.aCo s9.ct s9.nb s9.LN ((s9.x0).1) s9.CM s9.hs s9.th (bI (s9.x0).2) s9.ep s9.fc s9.σ (xs (4 * q + 1)) 0 s9.fB s9.fP hI.1.1 hct hj z0) (cwV 2 hC.S9.2.2.2.2 gL_law_X8_setPlug rfl rfl rfl (by decide +kernel) ⟨Nat.le_of_ble_eq_true rfl, Nat.le_of_ble_eq_true rfl⟩) [15, 16, 17, 20] rfl (by decide) (SameR.cons (SameR.cons (SameR.cons (SameR.cons SameR.nil)))) (by subst eS; rfl) hP hD hS rfl hl.1 rfl (Nat.le_of_ble_eq_true rfl) ⟨hcn, hsn⟩ dL_law_452 (fun H locs hP hD hS => ?_)
        refine lv_istore (lv' := [(7, .int (if pB s9.σ (bx (xs (4 * q + 1))) = 0 then 0 else 1)), (6, .int 0), (5, .int (nI (4 * q))), (4, .ref a.oD), (3, .ref a.oA), (2, .ref a.am), (1, .ref a.aX), (0, .ref b)]) hx hb dL_law_455 hl (by decide) rfl (fun ls hl => ?_)
        refine lv_aload_n hx hb dL_law_457 rfl (lv_at hl 5 rfl) ?_
        refine lw_thrown (s1 := S9) (t1 := S9) (k := 0) hC hP (by subst eS; rfl) hl.1 (Nat.le_of_ble_eq_true rfl) ⟨hcn, hsn⟩ dL_law_458 ?_
        refine lv_iload hx hb dL_law_461 (lv_at hl 1 rfl) ?_
        refine lv_icmp_eq (tgt := 468) hx hb dL_law_463 (by decide) (fun c_463 => ?_) (fun c_463 => ?_)
        rotate_left
        · exact absurd c_463 (by decide)
        refine lv_iload hx hb dL_law_468 (lv_at hl 1 rfl) ?_
        refine lv_if_ne (tgt := 492) hx hb dL_law_470 (by decide) (fun c_470 => ?_) (fun c_470 => ?_)
        · exact absurd c_470 (by decide)
        refine lv_aload_n hx hb dL_law_473 rfl (lv_at hl 4 rfl) ?_
        refine lv_iconst (v := 0) hx hb dL_law_474 (by decide) ?_
        refine lw_ldL (s1 := S9) (t1 := S9) (x := vL (pB s9.σ (bx (xs (4 * q + 1))))) hC hP (by subst eS; rfl) dL_law_475 ?_
        refine lv_iload hx hb dL_law_476 (lv_at hl 0 rfl) ?_
        refine lv_if_eq (tgt := 485) hx hb dL_law_478 (by decide) (fun c_478 => ?_) (fun c_478 => ?_)
        rotate_left
        · exact absurd (if_pos hz) c_478
        refine lv_lconst (v := 0) hx hb dL_law_485 (by decide) ?_
        refine m_lcmp0 hx hb (if_pos hz) dL_law_486 ?_
        refine lv_if_eq (tgt := 492) hx hb dL_law_487 (by decide) (fun c_487 => ?_) (fun c_487 => ?_)
        rotate_left
        · exact absurd c_487 (by decide)
        refine lv_goto (tgt := 2890) hx hb dL_law_492 (by decide) ?_
        refine W.widen (k := cells + 1) (n := slots + 6) (by omega) (by omega) ?_
        exact kk S9 H locs ls (LI.of (LI.push hI ((inv_pluS hI.1 rfl).mono (by omega))) (by subst eS; rfl) (by subst eS; rfl) (by subst eS; rfl) (by subst eS; rfl) (by subst eS; rfl) (by subst eS; rfl) (by subst eS; rfl) (by subst eS; rfl) (by subst eS; rfl) (by subst eS; rfl) (by subst eS; rfl) (by subst eS; rfl) (by subst eS; rfl) (by subst eS; rfl) (by subst eS; rfl)) hP hD hS (lv_sub hl [2, 3, 4, 5, 6, 7] rfl)
      · obtain ⟨S9, eS⟩ : ∃ z : LwS, z = (LwS.mk (pluS (bx (xs (4 * q + 1))) 0 s9.σ) s9.υ s9.ς s9.hs s9.ep s9.fc s9.ml 0 ((s9.nx + 1) % 8) (kInc s9.ct) s9.nb s9.n s9.LN s9.CM (updR s9.ρ s9.nx s9.σ) s9.x s9.x0 s9.f s9.gk s9.g1 s9.g2 s9.g3 s9.fb (encS s9.σ) s9.fA s9.fV (pastP s9.ct s9.fP (encS s9.σ)) s9.fO s9.g (fun _ => vL (pB s9.σ (bx (xs (4 * q + 1))))) s9.fd) := ⟨_, rfl⟩
        refine lv_aload_n hx hb dL_law_404 rfl (lv_at hl 4 rfl) ?_
        refine lv_aload_n hx hb dL_law_405 rfl (lv_at hl 5 rfl) ?_
        refine lv_iload hx hb dL_law_406 (lv_at hl 0 rfl) ?_
        refine lv_iconst (v := 1) hx hb dL_law_408 (by decide) ?_
        refine lv_iadd hx hb dL_law_409 ?_
        refine m_sld (v := nI (bx (xs (4 * q + 1)))) hx hb hC.hX hC.hbl hC.hbA hS (k := 4 * q + 1) (m_add rfl rfl) (by omega) hC.hL e1 dL_law_410 ?_
        refine lv_aload_n hx hb dL_law_411 rfl (lv_at hl 5 rfl) ?_
        refine lv_iload hx hb dL_law_412 (lv_at hl 0 rfl) ?_
        refine lv_iconst (v := 2) hx hb dL_law_414 (by decide) ?_
        refine lv_iadd hx hb dL_law_415 ?_
        refine m_sld (v := xs (4 * q + 2)) hx hb hC.hX hC.hbl hC.hbA hS (k := 4 * q + 2) (m_add rfl rfl) (by omega) hC.hL rfl dL_law_416 ?_
        refine lv_if_eq (tgt := 424) hx hb dL_law_417 (by decide) (fun c_417 => ?_) (fun c_417 => ?_)
        rotate_left
        · exact absurd hxf c_417
        refine lv_iconst (v := 0) hx hb dL_law_424 (by decide) ?_
        refine lv_aload_n hx hb dL_law_425 rfl (lv_at hl 2 rfl) ?_
        refine lw_w (mc := 0) (ms := 0) (Wc := (LCh cy a s9 s9)) (Wn := (LCh cy a S9 s9)) hC (w_setPlug_ok l G cy kS vS a.aX a.na a.tr a.sn s9.hs a.hi a.sc s9.ep s9.fc a.ob a.hA s9.nx s9.ct a.ra s9.ρ s9.σ (bx (xs (4 * q + 1))) 0 a.oA s9.fo hI.1.1 hnx hct hj rfl (by rw [← e1]; exact z0)) (vx_cwSW 4 hC.S9.2.2.2.2 gL_law_L_setPlug rfl rfl rfl (by decide +kernel) ⟨Nat.le_of_ble_eq_true rfl, Nat.le_of_ble_eq_true rfl⟩) [0, 1, 4, 5, 6, 24] rfl (by decide) (SameL.cons SameA.rf (SameL.cons SameA.st (SameL.cons SameA.one (SameL.cons SameA.rf (SameL.cons SameA.ring (SameL.cons SameA.one SameL.nil)))))) (by subst eS; rfl) hP hD hS rfl hl.1 rfl (Nat.le_of_ble_eq_true rfl) ⟨hc0, hs0⟩ dL_law_426 (fun H locs hP hD hS => ?_)
        refine lv_istore (lv' := [(6, .int 0), (5, .int (nI (4 * q))), (4, .ref a.oD), (3, .ref a.oA), (2, .ref a.am), (1, .ref a.aX), (0, .ref b)]) hx hb dL_law_429 hl (by decide) rfl (fun ls hl => ?_)
        refine lv_aload_n hx hb dL_law_431 rfl (lv_at hl 4 rfl) ?_
        refine lv_aload_n hx hb dL_law_432 rfl (lv_at hl 6 rfl) ?_
        refine lv_iload hx hb dL_law_433 (lv_at hl 1 rfl) ?_
        refine lv_iconst (v := 1) hx hb dL_law_435 (by decide) ?_
        refine lv_iadd hx hb dL_law_436 ?_
        refine m_sld (v := xs (4 * q + 1)) hx hb hC.hX hC.hbl hC.hbA hS (k := 4 * q + 1) (m_add rfl rfl) (by omega) hC.hL rfl dL_law_437 ?_
        refine lv_aload_n hx hb dL_law_438 rfl (lv_at hl 6 rfl) ?_
        refine lv_iload hx hb dL_law_439 (lv_at hl 1 rfl) ?_
        refine lv_iconst (v := 2) hx hb dL_law_441 (by decide) ?_
        refine lv_iadd hx hb dL_law_442 ?_
        refine m_sld (v := xs (4 * q + 2)) hx hb hC.hX hC.hbl hC.hbA hS (k := 4 * q + 2) (m_add rfl rfl) (by omega) hC.hL rfl dL_law_443 ?_
        refine lv_if_eq (tgt := 451) hx hb dL_law_444 (by decide) (fun c_444 => ?_) (fun c_444 => ?_)
        rotate_left
        · exact absurd hxf c_444
        refine lv_iconst (v := 0) hx hb dL_law_451 (by decide) ?_
        refine lw_m (s1 := S9) (t1 := s9) (Wn := (LCh cy a S9 S9)) hC (c_X8_setPlug_ok l G cy a.am a.aS a.aBf a.aAs a.aSv a.aPa a.aOu a.aTx a.aCo s9.ct s9.nb s9.LN ((s9.x0).1) s9.CM s9.hs s9.th (bI (s9.x0).2) s9.ep s9.fc s9.σ (xs (4 * q + 1)) 0 s9.fB s9.fP hI.1.1 hct hj z0) (cwV 2 hC.S9.2.2.2.2 gL_law_X8_setPlug rfl rfl rfl (by decide +kernel) ⟨Nat.le_of_ble_eq_true rfl, Nat.le_of_ble_eq_true rfl⟩) [15, 16, 17, 20] rfl (by decide) (SameR.cons (SameR.cons (SameR.cons (SameR.cons SameR.nil)))) (by subst eS; rfl) hP hD hS rfl hl.1 rfl (Nat.le_of_ble_eq_true rfl) ⟨hcn, hsn⟩ dL_law_452 (fun H locs hP hD hS => ?_)
        refine lv_istore (lv' := [(7, .int (if pB s9.σ (bx (xs (4 * q + 1))) = 0 then 0 else 1)), (6, .int 0), (5, .int (nI (4 * q))), (4, .ref a.oD), (3, .ref a.oA), (2, .ref a.am), (1, .ref a.aX), (0, .ref b)]) hx hb dL_law_455 hl (by decide) rfl (fun ls hl => ?_)
        refine lv_aload_n hx hb dL_law_457 rfl (lv_at hl 5 rfl) ?_
        refine lw_thrown (s1 := S9) (t1 := S9) (k := 0) hC hP (by subst eS; rfl) hl.1 (Nat.le_of_ble_eq_true rfl) ⟨hcn, hsn⟩ dL_law_458 ?_
        refine lv_iload hx hb dL_law_461 (lv_at hl 1 rfl) ?_
        refine lv_icmp_eq (tgt := 468) hx hb dL_law_463 (by decide) (fun c_463 => ?_) (fun c_463 => ?_)
        rotate_left
        · exact absurd c_463 (by decide)
        refine lv_iload hx hb dL_law_468 (lv_at hl 1 rfl) ?_
        refine lv_if_ne (tgt := 492) hx hb dL_law_470 (by decide) (fun c_470 => ?_) (fun c_470 => ?_)
        · exact absurd c_470 (by decide)
        refine lv_aload_n hx hb dL_law_473 rfl (lv_at hl 4 rfl) ?_
        refine lv_iconst (v := 0) hx hb dL_law_474 (by decide) ?_
        refine lw_ldL (s1 := S9) (t1 := S9) (x := vL (pB s9.σ (bx (xs (4 * q + 1))))) hC hP (by subst eS; rfl) dL_law_475 ?_
        refine lv_iload hx hb dL_law_476 (lv_at hl 0 rfl) ?_
        refine lv_if_eq (tgt := 485) hx hb dL_law_478 (by decide) (fun c_478 => ?_) (fun c_478 => ?_)
        · exact absurd c_478 (by rw [if_neg hz]; decide)
        refine lv_lconst (v := 1) hx hb dL_law_481 (by decide) ?_
        refine lv_goto (tgt := 486) hx hb dL_law_482 (by decide) ?_
        refine m_lcmp0 hx hb (if_neg hz) dL_law_486 ?_
        refine lv_if_eq (tgt := 492) hx hb dL_law_487 (by decide) (fun c_487 => ?_) (fun c_487 => ?_)
        rotate_left
        · exact absurd c_487 (by decide)
        refine lv_goto (tgt := 2890) hx hb dL_law_492 (by decide) ?_
        refine W.widen (k := cells + 1) (n := slots + 6) (by omega) (by omega) ?_
        exact kk S9 H locs ls (LI.of (LI.push hI ((inv_pluS hI.1 rfl).mono (by omega))) (by subst eS; rfl) (by subst eS; rfl) (by subst eS; rfl) (by subst eS; rfl) (by subst eS; rfl) (by subst eS; rfl) (by subst eS; rfl) (by subst eS; rfl) (by subst eS; rfl) (by subst eS; rfl) (by subst eS; rfl) (by subst eS; rfl) (by subst eS; rfl) (by subst eS; rfl) (by subst eS; rfl)) hP hD hS (lv_sub hl [2, 3, 4, 5, 6, 7] rfl)
    · obtain ⟨S9, eS⟩ : ∃ z : LwS, z = (LwS.mk s9.σ s9.υ s9.ς s9.hs s9.ep s9.fc s9.ml (plgF (nB s9.σ) (xs (4 * q + 1))) s9.nx s9.ct s9.nb s9.n s9.LN s9.CM s9.ρ s9.x s9.x0 s9.f s9.gk s9.g1 s9.g2 s9.g3 s9.fb (encS s9.σ) s9.fA s9.fV s9.fP s9.fO s9.g s9.fo s9.fd) := ⟨_, rfl⟩
      refine lv_aload_n hx hb dL_law_404 rfl (lv_at hl 4 rfl) ?_
      refine lv_aload_n hx hb dL_law_405 rfl (lv_at hl 5 rfl) ?_
      refine lv_iload hx hb dL_law_406 (lv_at hl 0 rfl) ?_
      refine lv_iconst (v := 1) hx hb dL_law_408 (by decide) ?_
      refine lv_iadd hx hb dL_law_409 ?_
      refine m_sld (v := xs (4 * q + 1)) hx hb hC.hX hC.hbl hC.hbA hS (k := 4 * q + 1) (m_add rfl rfl) (by omega) hC.hL rfl dL_law_410 ?_
      refine lv_aload_n hx hb dL_law_411 rfl (lv_at hl 5 rfl) ?_
      refine lv_iload hx hb dL_law_412 (lv_at hl 0 rfl) ?_
      refine lv_iconst (v := 2) hx hb dL_law_414 (by decide) ?_
      refine lv_iadd hx hb dL_law_415 ?_
      refine m_sld (v := xs (4 * q + 2)) hx hb hC.hX hC.hbl hC.hbA hS (k := 4 * q + 2) (m_add rfl rfl) (by omega) hC.hL rfl dL_law_416 ?_
      refine lv_if_eq (tgt := 424) hx hb dL_law_417 (by decide) (fun c_417 => ?_) (fun c_417 => ?_)
      rotate_left
      · exact absurd hxf c_417
      refine lv_iconst (v := 0) hx hb dL_law_424 (by decide) ?_
      refine lv_aload_n hx hb dL_law_425 rfl (lv_at hl 2 rfl) ?_
      refine lw_w (mc := 1) (ms := 6) (Wc := (LCh cy a s9 s9)) (Wn := (LCh cy a S9 s9)) hC (w_setPlug_1 l G cy kS vS a.aX a.na a.tr a.sn s9.hs a.hi a.sc s9.ep s9.fc a.ob s9.σ (xs (4 * q + 1)) 0 a.oA s9.fo hC.hl9 hI.1.1 z1) (vx_cwSW 4 hC.S9.2.2.2.2 gL_law_L_setPlug rfl rfl rfl (by decide +kernel) ⟨Nat.le_of_ble_eq_true rfl, Nat.le_of_ble_eq_true rfl⟩) [0, 1, 24] rfl (by decide) (SameL.cons SameA.rf (SameL.cons SameA.rf (SameL.cons SameA.rf SameL.nil))) (by subst eS; rfl) hP hD hS rfl hl.1 rfl (Nat.le_of_ble_eq_true rfl) ⟨hc1, hs1⟩ dL_law_426 (fun H locs hP hD hS => ?_)
      refine lv_istore (lv' := [(6, .int 1), (5, .int (nI (4 * q))), (4, .ref a.oD), (3, .ref a.oA), (2, .ref a.am), (1, .ref a.aX), (0, .ref b)]) hx hb dL_law_429 hl (by decide) rfl (fun ls hl => ?_)
      refine lv_aload_n hx hb dL_law_431 rfl (lv_at hl 4 rfl) ?_
      refine lv_aload_n hx hb dL_law_432 rfl (lv_at hl 6 rfl) ?_
      refine lv_iload hx hb dL_law_433 (lv_at hl 1 rfl) ?_
      refine lv_iconst (v := 1) hx hb dL_law_435 (by decide) ?_
      refine lv_iadd hx hb dL_law_436 ?_
      refine m_sld (v := xs (4 * q + 1)) hx hb hC.hX hC.hbl hC.hbA hS (k := 4 * q + 1) (m_add rfl rfl) (by omega) hC.hL rfl dL_law_437 ?_
      refine lv_aload_n hx hb dL_law_438 rfl (lv_at hl 6 rfl) ?_
      refine lv_iload hx hb dL_law_439 (lv_at hl 1 rfl) ?_
      refine lv_iconst (v := 2) hx hb dL_law_441 (by decide) ?_
      refine lv_iadd hx hb dL_law_442 ?_
      refine m_sld (v := xs (4 * q + 2)) hx hb hC.hX hC.hbl hC.hbA hS (k := 4 * q + 2) (m_add rfl rfl) (by omega) hC.hL rfl dL_law_443 ?_
      refine lv_if_eq (tgt := 451) hx hb dL_law_444 (by decide) (fun c_444 => ?_) (fun c_444 => ?_)
      rotate_left
      · exact absurd hxf c_444
      refine lv_iconst (v := 0) hx hb dL_law_451 (by decide) ?_
      refine lw_m (s1 := S9) (t1 := s9) (Wn := (LCh cy a S9 S9)) hC (c_X8_setPlug_no l G cy a.am a.aS a.aBf a.aAs a.aSv a.aPa a.aOu a.aTx a.aCo s9.ct s9.nb s9.LN ((s9.x0).1) s9.CM s9.hs s9.th (bI (s9.x0).2) s9.ep s9.fc s9.σ (xs (4 * q + 1)) 0 s9.fB hI.1.1 (by rw [z1]; decide) (by rw [z1]; decide)) (cwV 2 hC.S9.2.2.2.2 gL_law_X8_setPlug rfl rfl rfl (by decide +kernel) ⟨Nat.le_of_ble_eq_true rfl, Nat.le_of_ble_eq_true rfl⟩) [15, 16, 17] rfl (by decide) (SameR.cons (SameR.cons (SameR.cons SameR.nil))) (by subst eS; rfl) hP hD hS rfl hl.1 rfl (Nat.le_of_ble_eq_true rfl) ⟨hc1, hs1⟩ dL_law_452 (fun H locs hP hD hS => ?_)
      refine lv_istore (lv' := [(7, .int 0), (6, .int 1), (5, .int (nI (4 * q))), (4, .ref a.oD), (3, .ref a.oA), (2, .ref a.am), (1, .ref a.aX), (0, .ref b)]) hx hb dL_law_455 hl (by decide) rfl (fun ls hl => ?_)
      refine lv_aload_n hx hb dL_law_457 rfl (lv_at hl 5 rfl) ?_
      refine lw_thrown (s1 := S9) (t1 := S9) (k := plgF (nB s9.σ) (xs (4 * q + 1))) hC hP (by subst eS; rfl) hl.1 (Nat.le_of_ble_eq_true rfl) ⟨hc1, hs1⟩ dL_law_458 ?_
      refine lv_iload hx hb dL_law_461 (lv_at hl 1 rfl) ?_
      refine lv_icmp_eq (tgt := 468) hx hb dL_law_463 (by decide) (fun c_463 => ?_) (fun c_463 => ?_)
      rotate_left
      · exact absurd z1 c_463
      refine lv_iload hx hb dL_law_468 (lv_at hl 1 rfl) ?_
      refine lv_if_ne (tgt := 492) hx hb dL_law_470 (by decide) (fun c_470 => ?_) (fun c_470 => ?_)
      rotate_left
      · exact absurd c_470 (by decide)
      refine lv_goto (tgt := 2890) hx hb dL_law_492 (by decide) ?_
      exact kk S9 H locs ls (LI.of (LI.mono hI (by omega)) (by subst eS; rfl) (by subst eS; rfl) (by subst eS; rfl) (by subst eS; rfl) (by subst eS; rfl) (by subst eS; rfl) (by subst eS; rfl) (by subst eS; rfl) (by subst eS; rfl) (by subst eS; rfl) (by subst eS; rfl) (by subst eS; rfl) (by subst eS; rfl) (by subst eS; rfl) (by subst eS; rfl)) hP hD hS (lv_sub hl [2, 3, 4, 5, 6, 7] rfl)
  · rcases plgF_v (nB s9.σ) (xs (4 * q + 1)) with z0 | z1
    · obtain ⟨e1, hj⟩ := plgF_0 hN0 z0
      by_cases hz : pB s9.σ (bx (xs (4 * q + 1))) = 0
      · obtain ⟨S9, eS⟩ : ∃ z : LwS, z = (LwS.mk (pluS (bx (xs (4 * q + 1))) 1 s9.σ) s9.υ s9.ς s9.hs s9.ep s9.fc s9.ml 0 ((s9.nx + 1) % 8) (kInc s9.ct) s9.nb s9.n s9.LN s9.CM (updR s9.ρ s9.nx s9.σ) s9.x s9.x0 s9.f s9.gk s9.g1 s9.g2 s9.g3 s9.fb (encS s9.σ) s9.fA s9.fV (pastP s9.ct s9.fP (encS s9.σ)) s9.fO s9.g (fun _ => vL (pB s9.σ (bx (xs (4 * q + 1))))) s9.fd) := ⟨_, rfl⟩
        refine lv_aload_n hx hb dL_law_404 rfl (lv_at hl 4 rfl) ?_
        refine lv_aload_n hx hb dL_law_405 rfl (lv_at hl 5 rfl) ?_
        refine lv_iload hx hb dL_law_406 (lv_at hl 0 rfl) ?_
        refine lv_iconst (v := 1) hx hb dL_law_408 (by decide) ?_
        refine lv_iadd hx hb dL_law_409 ?_
        refine m_sld (v := nI (bx (xs (4 * q + 1)))) hx hb hC.hX hC.hbl hC.hbA hS (k := 4 * q + 1) (m_add rfl rfl) (by omega) hC.hL e1 dL_law_410 ?_
        refine lv_aload_n hx hb dL_law_411 rfl (lv_at hl 5 rfl) ?_
        refine lv_iload hx hb dL_law_412 (lv_at hl 0 rfl) ?_
        refine lv_iconst (v := 2) hx hb dL_law_414 (by decide) ?_
        refine lv_iadd hx hb dL_law_415 ?_
        refine m_sld (v := xs (4 * q + 2)) hx hb hC.hX hC.hbl hC.hbA hS (k := 4 * q + 2) (m_add rfl rfl) (by omega) hC.hL rfl dL_law_416 ?_
        refine lv_if_eq (tgt := 424) hx hb dL_law_417 (by decide) (fun c_417 => ?_) (fun c_417 => ?_)
        · exact absurd c_417 hxf
        refine lv_iconst (v := 1) hx hb dL_law_420 (by decide) ?_
        refine lv_goto (tgt := 425) hx hb dL_law_421 (by decide) ?_
        refine lv_aload_n hx hb dL_law_425 rfl (lv_at hl 2 rfl) ?_
        refine lw_w (mc := 0) (ms := 0) (Wc := (LCh cy a s9 s9)) (Wn := (LCh cy a S9 s9)) hC (w_setPlug_ok l G cy kS vS a.aX a.na a.tr a.sn s9.hs a.hi a.sc s9.ep s9.fc a.ob a.hA s9.nx s9.ct a.ra s9.ρ s9.σ (bx (xs (4 * q + 1))) 1 a.oA s9.fo hI.1.1 hnx hct hj rfl (by rw [← e1]; exact z0)) (vx_cwSW 4 hC.S9.2.2.2.2 gL_law_L_setPlug rfl rfl rfl (by decide +kernel) ⟨Nat.le_of_ble_eq_true rfl, Nat.le_of_ble_eq_true rfl⟩) [0, 1, 4, 5, 6, 24] rfl (by decide) (SameL.cons SameA.rf (SameL.cons SameA.st (SameL.cons SameA.one (SameL.cons SameA.rf (SameL.cons SameA.ring (SameL.cons SameA.one SameL.nil)))))) (by subst eS; rfl) hP hD hS rfl hl.1 rfl (Nat.le_of_ble_eq_true rfl) ⟨hc0, hs0⟩ dL_law_426 (fun H locs hP hD hS => ?_)
        refine lv_istore (lv' := [(6, .int 0), (5, .int (nI (4 * q))), (4, .ref a.oD), (3, .ref a.oA), (2, .ref a.am), (1, .ref a.aX), (0, .ref b)]) hx hb dL_law_429 hl (by decide) rfl (fun ls hl => ?_)
        refine lv_aload_n hx hb dL_law_431 rfl (lv_at hl 4 rfl) ?_
        refine lv_aload_n hx hb dL_law_432 rfl (lv_at hl 6 rfl) ?_
        refine lv_iload hx hb dL_law_433 (lv_at hl 1 rfl) ?_
        refine lv_iconst (v := 1) hx hb dL_law_435 (by decide) ?_
        refine lv_iadd hx hb dL_law_436 ?_
        refine m_sld (v := xs (4 * q + 1)) hx hb hC.hX hC.hbl hC.hbA hS (k := 4 * q + 1) (m_add rfl rfl) (by omega) hC.hL rfl dL_law_437 ?_
        refine lv_aload_n hx hb dL_law_438 rfl (lv_at hl 6 rfl) ?_
        refine lv_iload hx hb dL_law_439 (lv_at hl 1 rfl) ?_
        refine lv_iconst (v := 2) hx hb dL_law_441 (by decide) ?_
        refine lv_iadd hx hb dL_law_442 ?_
        refine m_sld (v := xs (4 * q + 2)) hx hb hC.hX hC.hbl hC.hbA hS (k := 4 * q + 2) (m_add rfl rfl) (by omega) hC.hL rfl dL_law_443 ?_
        refine lv_if_eq (tgt := 451) hx hb dL_law_444 (by decide) (fun c_444 => ?_) (fun c_444 => ?_)
        · exact absurd c_444 hxf
        refine lv_iconst (v := 1) hx hb dL_law_447 (by decide) ?_
        refine lv_goto (tgt := 452) hx hb dL_law_448 (by decide) ?_
        refine lw_m (s1 := S9) (t1 := s9) (Wn := (LCh cy a S9 S9)) hC (c_X8_setPlug_ok l G cy a.am a.aS a.aBf a.aAs a.aSv a.aPa a.aOu a.aTx a.aCo s9.ct s9.nb s9.LN ((s9.x0).1) s9.CM s9.hs s9.th (bI (s9.x0).2) s9.ep s9.fc s9.σ (xs (4 * q + 1)) 1 s9.fB s9.fP hI.1.1 hct hj z0) (cwV 2 hC.S9.2.2.2.2 gL_law_X8_setPlug rfl rfl rfl (by decide +kernel) ⟨Nat.le_of_ble_eq_true rfl, Nat.le_of_ble_eq_true rfl⟩) [15, 16, 17, 20] rfl (by decide) (SameR.cons (SameR.cons (SameR.cons (SameR.cons SameR.nil)))) (by subst eS; rfl) hP hD hS rfl hl.1 rfl (Nat.le_of_ble_eq_true rfl) ⟨hcn, hsn⟩ dL_law_452 (fun H locs hP hD hS => ?_)
        refine lv_istore (lv' := [(7, .int (if pB s9.σ (bx (xs (4 * q + 1))) = 0 then 0 else 1)), (6, .int 0), (5, .int (nI (4 * q))), (4, .ref a.oD), (3, .ref a.oA), (2, .ref a.am), (1, .ref a.aX), (0, .ref b)]) hx hb dL_law_455 hl (by decide) rfl (fun ls hl => ?_)
        refine lv_aload_n hx hb dL_law_457 rfl (lv_at hl 5 rfl) ?_
        refine lw_thrown (s1 := S9) (t1 := S9) (k := 0) hC hP (by subst eS; rfl) hl.1 (Nat.le_of_ble_eq_true rfl) ⟨hcn, hsn⟩ dL_law_458 ?_
        refine lv_iload hx hb dL_law_461 (lv_at hl 1 rfl) ?_
        refine lv_icmp_eq (tgt := 468) hx hb dL_law_463 (by decide) (fun c_463 => ?_) (fun c_463 => ?_)
        rotate_left
        · exact absurd c_463 (by decide)
        refine lv_iload hx hb dL_law_468 (lv_at hl 1 rfl) ?_
        refine lv_if_ne (tgt := 492) hx hb dL_law_470 (by decide) (fun c_470 => ?_) (fun c_470 => ?_)
        · exact absurd c_470 (by decide)
        refine lv_aload_n hx hb dL_law_473 rfl (lv_at hl 4 rfl) ?_
        refine lv_iconst (v := 0) hx hb dL_law_474 (by decide) ?_
        refine lw_ldL (s1 := S9) (t1 := S9) (x := vL (pB s9.σ (bx (xs (4 * q + 1))))) hC hP (by subst eS; rfl) dL_law_475 ?_
        refine lv_iload hx hb dL_law_476 (lv_at hl 0 rfl) ?_
        refine lv_if_eq (tgt := 485) hx hb dL_law_478 (by decide) (fun c_478 => ?_) (fun c_478 => ?_)
        rotate_left
        · exact absurd (if_pos hz) c_478
        refine lv_lconst (v := 0) hx hb dL_law_485 (by decide) ?_
        refine m_lcmp0 hx hb (if_pos hz) dL_law_486 ?_
        refine lv_if_eq (tgt := 492) hx hb dL_law_487 (by decide) (fun c_487 => ?_) (fun c_487 => ?_)
        rotate_left
        · exact absurd c_487 (by decide)
        refine lv_goto (tgt := 2890) hx hb dL_law_492 (by decide) ?_
        refine W.widen (k := cells + 1) (n := slots + 6) (by omega) (by omega) ?_
        exact kk S9 H locs ls (LI.of (LI.push hI ((inv_pluS hI.1 rfl).mono (by omega))) (by subst eS; rfl) (by subst eS; rfl) (by subst eS; rfl) (by subst eS; rfl) (by subst eS; rfl) (by subst eS; rfl) (by subst eS; rfl) (by subst eS; rfl) (by subst eS; rfl) (by subst eS; rfl) (by subst eS; rfl) (by subst eS; rfl) (by subst eS; rfl) (by subst eS; rfl) (by subst eS; rfl)) hP hD hS (lv_sub hl [2, 3, 4, 5, 6, 7] rfl)
      · obtain ⟨S9, eS⟩ : ∃ z : LwS, z = (LwS.mk (pluS (bx (xs (4 * q + 1))) 1 s9.σ) s9.υ s9.ς s9.hs s9.ep s9.fc s9.ml 0 ((s9.nx + 1) % 8) (kInc s9.ct) s9.nb s9.n s9.LN s9.CM (updR s9.ρ s9.nx s9.σ) s9.x s9.x0 s9.f s9.gk s9.g1 s9.g2 s9.g3 s9.fb (encS s9.σ) s9.fA s9.fV (pastP s9.ct s9.fP (encS s9.σ)) s9.fO s9.g (fun _ => vL (pB s9.σ (bx (xs (4 * q + 1))))) s9.fd) := ⟨_, rfl⟩
        refine lv_aload_n hx hb dL_law_404 rfl (lv_at hl 4 rfl) ?_
        refine lv_aload_n hx hb dL_law_405 rfl (lv_at hl 5 rfl) ?_
        refine lv_iload hx hb dL_law_406 (lv_at hl 0 rfl) ?_
        refine lv_iconst (v := 1) hx hb dL_law_408 (by decide) ?_
        refine lv_iadd hx hb dL_law_409 ?_
        refine m_sld (v := nI (bx (xs (4 * q + 1)))) hx hb hC.hX hC.hbl hC.hbA hS (k := 4 * q + 1) (m_add rfl rfl) (by omega) hC.hL e1 dL_law_410 ?_
        refine lv_aload_n hx hb dL_law_411 rfl (lv_at hl 5 rfl) ?_
        refine lv_iload hx hb dL_law_412 (lv_at hl 0 rfl) ?_
        refine lv_iconst (v := 2) hx hb dL_law_414 (by decide) ?_
        refine lv_iadd hx hb dL_law_415 ?_
        refine m_sld (v := xs (4 * q + 2)) hx hb hC.hX hC.hbl hC.hbA hS (k := 4 * q + 2) (m_add rfl rfl) (by omega) hC.hL rfl dL_law_416 ?_
        refine lv_if_eq (tgt := 424) hx hb dL_law_417 (by decide) (fun c_417 => ?_) (fun c_417 => ?_)
        · exact absurd c_417 hxf
        refine lv_iconst (v := 1) hx hb dL_law_420 (by decide) ?_
        refine lv_goto (tgt := 425) hx hb dL_law_421 (by decide) ?_
        refine lv_aload_n hx hb dL_law_425 rfl (lv_at hl 2 rfl) ?_
        refine lw_w (mc := 0) (ms := 0) (Wc := (LCh cy a s9 s9)) (Wn := (LCh cy a S9 s9)) hC (w_setPlug_ok l G cy kS vS a.aX a.na a.tr a.sn s9.hs a.hi a.sc s9.ep s9.fc a.ob a.hA s9.nx s9.ct a.ra s9.ρ s9.σ (bx (xs (4 * q + 1))) 1 a.oA s9.fo hI.1.1 hnx hct hj rfl (by rw [← e1]; exact z0)) (vx_cwSW 4 hC.S9.2.2.2.2 gL_law_L_setPlug rfl rfl rfl (by decide +kernel) ⟨Nat.le_of_ble_eq_true rfl, Nat.le_of_ble_eq_true rfl⟩) [0, 1, 4, 5, 6, 24] rfl (by decide) (SameL.cons SameA.rf (SameL.cons SameA.st (SameL.cons SameA.one (SameL.cons SameA.rf (SameL.cons SameA.ring (SameL.cons SameA.one SameL.nil)))))) (by subst eS; rfl) hP hD hS rfl hl.1 rfl (Nat.le_of_ble_eq_true rfl) ⟨hc0, hs0⟩ dL_law_426 (fun H locs hP hD hS => ?_)
        refine lv_istore (lv' := [(6, .int 0), (5, .int (nI (4 * q))), (4, .ref a.oD), (3, .ref a.oA), (2, .ref a.am), (1, .ref a.aX), (0, .ref b)]) hx hb dL_law_429 hl (by decide) rfl (fun ls hl => ?_)
        refine lv_aload_n hx hb dL_law_431 rfl (lv_at hl 4 rfl) ?_
        refine lv_aload_n hx hb dL_law_432 rfl (lv_at hl 6 rfl) ?_
        refine lv_iload hx hb dL_law_433 (lv_at hl 1 rfl) ?_
        refine lv_iconst (v := 1) hx hb dL_law_435 (by decide) ?_
        refine lv_iadd hx hb dL_law_436 ?_
        refine m_sld (v := xs (4 * q + 1)) hx hb hC.hX hC.hbl hC.hbA hS (k := 4 * q + 1) (m_add rfl rfl) (by omega) hC.hL rfl dL_law_437 ?_
        refine lv_aload_n hx hb dL_law_438 rfl (lv_at hl 6 rfl) ?_
        refine lv_iload hx hb dL_law_439 (lv_at hl 1 rfl) ?_
        refine lv_iconst (v := 2) hx hb dL_law_441 (by decide) ?_
        refine lv_iadd hx hb dL_law_442 ?_
        refine m_sld (v := xs (4 * q + 2)) hx hb hC.hX hC.hbl hC.hbA hS (k := 4 * q + 2) (m_add rfl rfl) (by omega) hC.hL rfl dL_law_443 ?_
        refine lv_if_eq (tgt := 451) hx hb dL_law_444 (by decide) (fun c_444 => ?_) (fun c_444 => ?_)
        · exact absurd c_444 hxf
        refine lv_iconst (v := 1) hx hb dL_law_447 (by decide) ?_
        refine lv_goto (tgt := 452) hx hb dL_law_448 (by decide) ?_
        refine lw_m (s1 := S9) (t1 := s9) (Wn := (LCh cy a S9 S9)) hC (c_X8_setPlug_ok l G cy a.am a.aS a.aBf a.aAs a.aSv a.aPa a.aOu a.aTx a.aCo s9.ct s9.nb s9.LN ((s9.x0).1) s9.CM s9.hs s9.th (bI (s9.x0).2) s9.ep s9.fc s9.σ (xs (4 * q + 1)) 1 s9.fB s9.fP hI.1.1 hct hj z0) (cwV 2 hC.S9.2.2.2.2 gL_law_X8_setPlug rfl rfl rfl (by decide +kernel) ⟨Nat.le_of_ble_eq_true rfl, Nat.le_of_ble_eq_true rfl⟩) [15, 16, 17, 20] rfl (by decide) (SameR.cons (SameR.cons (SameR.cons (SameR.cons SameR.nil)))) (by subst eS; rfl) hP hD hS rfl hl.1 rfl (Nat.le_of_ble_eq_true rfl) ⟨hcn, hsn⟩ dL_law_452 (fun H locs hP hD hS => ?_)
        refine lv_istore (lv' := [(7, .int (if pB s9.σ (bx (xs (4 * q + 1))) = 0 then 0 else 1)), (6, .int 0), (5, .int (nI (4 * q))), (4, .ref a.oD), (3, .ref a.oA), (2, .ref a.am), (1, .ref a.aX), (0, .ref b)]) hx hb dL_law_455 hl (by decide) rfl (fun ls hl => ?_)
        refine lv_aload_n hx hb dL_law_457 rfl (lv_at hl 5 rfl) ?_
        refine lw_thrown (s1 := S9) (t1 := S9) (k := 0) hC hP (by subst eS; rfl) hl.1 (Nat.le_of_ble_eq_true rfl) ⟨hcn, hsn⟩ dL_law_458 ?_
        refine lv_iload hx hb dL_law_461 (lv_at hl 1 rfl) ?_
        refine lv_icmp_eq (tgt := 468) hx hb dL_law_463 (by decide) (fun c_463 => ?_) (fun c_463 => ?_)
        rotate_left
        · exact absurd c_463 (by decide)
        refine lv_iload hx hb dL_law_468 (lv_at hl 1 rfl) ?_
        refine lv_if_ne (tgt := 492) hx hb dL_law_470 (by decide) (fun c_470 => ?_) (fun c_470 => ?_)
        · exact absurd c_470 (by decide)
        refine lv_aload_n hx hb dL_law_473 rfl (lv_at hl 4 rfl) ?_
        refine lv_iconst (v := 0) hx hb dL_law_474 (by decide) ?_
        refine lw_ldL (s1 := S9) (t1 := S9) (x := vL (pB s9.σ (bx (xs (4 * q + 1))))) hC hP (by subst eS; rfl) dL_law_475 ?_
        refine lv_iload hx hb dL_law_476 (lv_at hl 0 rfl) ?_
        refine lv_if_eq (tgt := 485) hx hb dL_law_478 (by decide) (fun c_478 => ?_) (fun c_478 => ?_)
        · exact absurd c_478 (by rw [if_neg hz]; decide)
        refine lv_lconst (v := 1) hx hb dL_law_481 (by decide) ?_
        refine lv_goto (tgt := 486) hx hb dL_law_482 (by decide) ?_
        refine m_lcmp0 hx hb (if_neg hz) dL_law_486 ?_
        refine lv_if_eq (tgt := 492) hx hb dL_law_487 (by decide) (fun c_487 => ?_) (fun c_487 => ?_)
        rotate_left
        · exact absurd c_487 (by decide)
        refine lv_goto (tgt := 2890) hx hb dL_law_492 (by decide) ?_
        refine W.widen (k := cells + 1) (n := slots + 6) (by omega) (by omega) ?_
        exact kk S9 H locs ls (LI.of (LI.push hI ((inv_pluS hI.1 rfl).mono (by omega))) (by subst eS; rfl) (by subst eS; rfl) (by subst eS; rfl) (by subst eS; rfl) (by subst eS; rfl) (by subst eS; rfl) (by subst eS; rfl) (by subst eS; rfl) (by subst eS; rfl) (by subst eS; rfl) (by subst eS; rfl) (by subst eS; rfl) (by subst eS; rfl) (by subst eS; rfl) (by subst eS; rfl)) hP hD hS (lv_sub hl [2, 3, 4, 5, 6, 7] rfl)
    · obtain ⟨S9, eS⟩ : ∃ z : LwS, z = (LwS.mk s9.σ s9.υ s9.ς s9.hs s9.ep s9.fc s9.ml (plgF (nB s9.σ) (xs (4 * q + 1))) s9.nx s9.ct s9.nb s9.n s9.LN s9.CM s9.ρ s9.x s9.x0 s9.f s9.gk s9.g1 s9.g2 s9.g3 s9.fb (encS s9.σ) s9.fA s9.fV s9.fP s9.fO s9.g s9.fo s9.fd) := ⟨_, rfl⟩
      refine lv_aload_n hx hb dL_law_404 rfl (lv_at hl 4 rfl) ?_
      refine lv_aload_n hx hb dL_law_405 rfl (lv_at hl 5 rfl) ?_
      refine lv_iload hx hb dL_law_406 (lv_at hl 0 rfl) ?_
      refine lv_iconst (v := 1) hx hb dL_law_408 (by decide) ?_
      refine lv_iadd hx hb dL_law_409 ?_
      refine m_sld (v := xs (4 * q + 1)) hx hb hC.hX hC.hbl hC.hbA hS (k := 4 * q + 1) (m_add rfl rfl) (by omega) hC.hL rfl dL_law_410 ?_
      refine lv_aload_n hx hb dL_law_411 rfl (lv_at hl 5 rfl) ?_
      refine lv_iload hx hb dL_law_412 (lv_at hl 0 rfl) ?_
      refine lv_iconst (v := 2) hx hb dL_law_414 (by decide) ?_
      refine lv_iadd hx hb dL_law_415 ?_
      refine m_sld (v := xs (4 * q + 2)) hx hb hC.hX hC.hbl hC.hbA hS (k := 4 * q + 2) (m_add rfl rfl) (by omega) hC.hL rfl dL_law_416 ?_
      refine lv_if_eq (tgt := 424) hx hb dL_law_417 (by decide) (fun c_417 => ?_) (fun c_417 => ?_)
      · exact absurd c_417 hxf
      refine lv_iconst (v := 1) hx hb dL_law_420 (by decide) ?_
      refine lv_goto (tgt := 425) hx hb dL_law_421 (by decide) ?_
      refine lv_aload_n hx hb dL_law_425 rfl (lv_at hl 2 rfl) ?_
      refine lw_w (mc := 1) (ms := 6) (Wc := (LCh cy a s9 s9)) (Wn := (LCh cy a S9 s9)) hC (w_setPlug_1 l G cy kS vS a.aX a.na a.tr a.sn s9.hs a.hi a.sc s9.ep s9.fc a.ob s9.σ (xs (4 * q + 1)) 1 a.oA s9.fo hC.hl9 hI.1.1 z1) (vx_cwSW 4 hC.S9.2.2.2.2 gL_law_L_setPlug rfl rfl rfl (by decide +kernel) ⟨Nat.le_of_ble_eq_true rfl, Nat.le_of_ble_eq_true rfl⟩) [0, 1, 24] rfl (by decide) (SameL.cons SameA.rf (SameL.cons SameA.rf (SameL.cons SameA.rf SameL.nil))) (by subst eS; rfl) hP hD hS rfl hl.1 rfl (Nat.le_of_ble_eq_true rfl) ⟨hc1, hs1⟩ dL_law_426 (fun H locs hP hD hS => ?_)
      refine lv_istore (lv' := [(6, .int 1), (5, .int (nI (4 * q))), (4, .ref a.oD), (3, .ref a.oA), (2, .ref a.am), (1, .ref a.aX), (0, .ref b)]) hx hb dL_law_429 hl (by decide) rfl (fun ls hl => ?_)
      refine lv_aload_n hx hb dL_law_431 rfl (lv_at hl 4 rfl) ?_
      refine lv_aload_n hx hb dL_law_432 rfl (lv_at hl 6 rfl) ?_
      refine lv_iload hx hb dL_law_433 (lv_at hl 1 rfl) ?_
      refine lv_iconst (v := 1) hx hb dL_law_435 (by decide) ?_
      refine lv_iadd hx hb dL_law_436 ?_
      refine m_sld (v := xs (4 * q + 1)) hx hb hC.hX hC.hbl hC.hbA hS (k := 4 * q + 1) (m_add rfl rfl) (by omega) hC.hL rfl dL_law_437 ?_
      refine lv_aload_n hx hb dL_law_438 rfl (lv_at hl 6 rfl) ?_
      refine lv_iload hx hb dL_law_439 (lv_at hl 1 rfl) ?_
      refine lv_iconst (v := 2) hx hb dL_law_441 (by decide) ?_
      refine lv_iadd hx hb dL_law_442 ?_
      refine m_sld (v := xs (4 * q + 2)) hx hb hC.hX hC.hbl hC.hbA hS (k := 4 * q + 2) (m_add rfl rfl) (by omega) hC.hL rfl dL_law_443 ?_
      refine lv_if_eq (tgt := 451) hx hb dL_law_444 (by decide) (fun c_444 => ?_) (fun c_444 => ?_)
      · exact absurd c_444 hxf
      refine lv_iconst (v := 1) hx hb dL_law_447 (by decide) ?_
      refine lv_goto (tgt := 452) hx hb dL_law_448 (by decide) ?_
      refine lw_m (s1 := S9) (t1 := s9) (Wn := (LCh cy a S9 S9)) hC (c_X8_setPlug_no l G cy a.am a.aS a.aBf a.aAs a.aSv a.aPa a.aOu a.aTx a.aCo s9.ct s9.nb s9.LN ((s9.x0).1) s9.CM s9.hs s9.th (bI (s9.x0).2) s9.ep s9.fc s9.σ (xs (4 * q + 1)) 1 s9.fB hI.1.1 (by rw [z1]; decide) (by rw [z1]; decide)) (cwV 2 hC.S9.2.2.2.2 gL_law_X8_setPlug rfl rfl rfl (by decide +kernel) ⟨Nat.le_of_ble_eq_true rfl, Nat.le_of_ble_eq_true rfl⟩) [15, 16, 17] rfl (by decide) (SameR.cons (SameR.cons (SameR.cons SameR.nil))) (by subst eS; rfl) hP hD hS rfl hl.1 rfl (Nat.le_of_ble_eq_true rfl) ⟨hc1, hs1⟩ dL_law_452 (fun H locs hP hD hS => ?_)
      refine lv_istore (lv' := [(7, .int 0), (6, .int 1), (5, .int (nI (4 * q))), (4, .ref a.oD), (3, .ref a.oA), (2, .ref a.am), (1, .ref a.aX), (0, .ref b)]) hx hb dL_law_455 hl (by decide) rfl (fun ls hl => ?_)
      refine lv_aload_n hx hb dL_law_457 rfl (lv_at hl 5 rfl) ?_
      refine lw_thrown (s1 := S9) (t1 := S9) (k := plgF (nB s9.σ) (xs (4 * q + 1))) hC hP (by subst eS; rfl) hl.1 (Nat.le_of_ble_eq_true rfl) ⟨hc1, hs1⟩ dL_law_458 ?_
      refine lv_iload hx hb dL_law_461 (lv_at hl 1 rfl) ?_
      refine lv_icmp_eq (tgt := 468) hx hb dL_law_463 (by decide) (fun c_463 => ?_) (fun c_463 => ?_)
      rotate_left
      · exact absurd z1 c_463
      refine lv_iload hx hb dL_law_468 (lv_at hl 1 rfl) ?_
      refine lv_if_ne (tgt := 492) hx hb dL_law_470 (by decide) (fun c_470 => ?_) (fun c_470 => ?_)
      rotate_left
      · exact absurd c_470 (by decide)
      refine lv_goto (tgt := 2890) hx hb dL_law_492 (by decide) ?_
      exact kk S9 H locs ls (LI.of (LI.mono hI (by omega)) (by subst eS; rfl) (by subst eS; rfl) (by subst eS; rfl) (by subst eS; rfl) (by subst eS; rfl) (by subst eS; rfl) (by subst eS; rfl) (by subst eS; rfl) (by subst eS; rfl) (by subst eS; rfl) (by subst eS; rfl) (by subst eS; rfl) (by subst eS; rfl) (by subst eS; rfl) (by subst eS; rfl)) hP hD hS (lv_sub hl [2, 3, 4, 5, 6, 7] rfl)

set_option maxRecDepth 100000 in
set_option maxHeartbeats 4000000 in
theorem case_3 {p : Program} {l : Launch} {e : Env} {s : State} {m : MethodId} {below : List Frame} {meth : Method} {cq : Code} {G : va_G} {cy : Nat → ClassId} {kS vS : Nat → Nat} {A : Nat → Prop} {a : LA} {b L q : Nat} {xs : Nat → Int32} {Q : State → Prop} {n0 cells slots : Nat} (hC : LC l p s m meth cq G cy kS vS A b L xs) (hq : 4 * q + 4 ≤ L) (hn0 : n0 < 1000000) (hc1 : cells + 1 ≤ room_1.cells) (hs1 : slots + 6 ≤ room_1.slots) (kk : LGo p l e s m below meth cq G cy A a b q Q (n0 + 300) (cells + 1) (slots + 6) 2890) : LGo p l e s m below meth cq G cy A a b q Q n0 cells slots 495 := by
  intro s9 H locs ls hI hP hD hS hl
  obtain ⟨hx, hb, hml, hown, hts⟩ := id hC.S9
  have hL9 := hC.hL
  have hc0 : cells + 0 ≤ room_1.cells := Nat.le_of_succ_le hc1
  have hcn : cells ≤ room_1.cells := Nat.le_of_succ_le hc1
  have hs0 : slots + 0 ≤ room_1.slots := Nat.le_trans (Nat.le_add_right slots 6) hs1
  have hsn : slots ≤ room_1.slots := Nat.le_trans (Nat.le_add_right slots 6) hs1
  have ho := hI.1.1
  have hN0 := ho.1
  have hM0 := ho.2.1
  have hE0 := ho.2.2.1
  have hnx := hI.2.2.2.2.1
  have hct := hI.2.2.2.2.2.1
  rcases traF_v (nB s9.σ) (vB s9.σ) (xs (4 * q + 1)) (xs (4 * q + 2)) (xs (4 * q + 3)) with z0 | z1 | z2 | z4 | z5
  · obtain ⟨⟨e1, hj⟩, ⟨e2, hj2⟩, q5, q6, q7, q8⟩ := traF_0 hN0 z0
    have q9 : wet (vB s9.σ) (bx (xs (4 * q + 1))) = true := ti_wet.mpr (by have z1 := (inR_iff.mp q6).1; rw [Int32.lt_iff_toInt_lt, show (1 : Int32).toInt = 1 from by decide] at z1; rw [Int32.lt_iff_toInt_lt] at q7; omega)
    obtain ⟨S9, eS⟩ : ∃ z : LwS, z = (LwS.mk (traS (bx (xs (4 * q + 1))) (bx (xs (4 * q + 2))) (xs (4 * q + 3)) s9.σ) s9.υ s9.ς s9.hs s9.ep s9.fc s9.ml 0 ((s9.nx + 1) % 8) (kInc s9.ct) s9.nb s9.n s9.LN s9.CM (updR s9.ρ s9.nx s9.σ) s9.x s9.x0 s9.f s9.gk s9.g1 s9.g2 s9.g3 s9.fb (encS s9.σ) s9.fA s9.fV (pastP s9.ct s9.fP (encS s9.σ)) s9.fO s9.g (fun _ => (heatOf (vB s9.σ) (hB s9.σ) (bx (xs (4 * q + 1))) (xs (4 * q + 3))).toInt64) s9.fd) := ⟨_, rfl⟩
    refine lv_aload_n hx hb dL_law_495 rfl (lv_at hl 4 rfl) ?_
    refine lv_aload_n hx hb dL_law_496 rfl (lv_at hl 5 rfl) ?_
    refine lv_iload hx hb dL_law_497 (lv_at hl 0 rfl) ?_
    refine lv_iconst (v := 1) hx hb dL_law_499 (by decide) ?_
    refine lv_iadd hx hb dL_law_500 ?_
    refine m_sld (v := nI (bx (xs (4 * q + 1)))) hx hb hC.hX hC.hbl hC.hbA hS (k := 4 * q + 1) (m_add rfl rfl) (by omega) hC.hL e1 dL_law_501 ?_
    refine lv_aload_n hx hb dL_law_502 rfl (lv_at hl 5 rfl) ?_
    refine lv_iload hx hb dL_law_503 (lv_at hl 0 rfl) ?_
    refine lv_iconst (v := 2) hx hb dL_law_505 (by decide) ?_
    refine lv_iadd hx hb dL_law_506 ?_
    refine m_sld (v := nI (bx (xs (4 * q + 2)))) hx hb hC.hX hC.hbl hC.hbA hS (k := 4 * q + 2) (m_add rfl rfl) (by omega) hC.hL e2 dL_law_507 ?_
    refine lv_aload_n hx hb dL_law_508 rfl (lv_at hl 5 rfl) ?_
    refine lv_iload hx hb dL_law_509 (lv_at hl 0 rfl) ?_
    refine lv_iconst (v := 3) hx hb dL_law_511 (by decide) ?_
    refine lv_iadd hx hb dL_law_512 ?_
    refine m_sld (v := xs (4 * q + 3)) hx hb hC.hX hC.hbl hC.hbA hS (k := 4 * q + 3) (m_add rfl rfl) (by omega) hC.hL rfl dL_law_513 ?_
    refine lv_aload_n hx hb dL_law_514 rfl (lv_at hl 2 rfl) ?_
    refine lw_w (mc := 0) (ms := 0) (Wc := (LCh cy a s9 s9)) (Wn := (LCh cy a S9 s9)) hC (w_pour_ok l G cy kS vS a.aX a.na a.tr a.sn s9.hs a.hi a.sc s9.ep s9.fc a.ob a.hA s9.nx s9.ct a.ra s9.ρ s9.σ (bx (xs (4 * q + 1))) (bx (xs (4 * q + 2))) (xs (4 * q + 3)) a.oA s9.fo hI.1.1 hnx hct hj hj2 (by rw [← e1, ← e2]; exact z0)) (vx_cwSW 5 hC.S9.2.2.2.2 gL_law_L_pour rfl rfl rfl (by decide +kernel) ⟨Nat.le_of_ble_eq_true rfl, Nat.le_of_ble_eq_true rfl⟩) [0, 1, 4, 5, 6, 24] rfl (by decide) (SameL.cons SameA.rf (SameL.cons SameA.st (SameL.cons SameA.one (SameL.cons SameA.rf (SameL.cons SameA.ring (SameL.cons SameA.one SameL.nil)))))) (by subst eS; rfl) hP hD hS rfl hl.1 rfl (Nat.le_of_ble_eq_true rfl) ⟨hc0, hs0⟩ dL_law_515 (fun H locs hP hD hS => ?_)
    refine lv_istore (lv' := [(6, .int 0), (5, .int (nI (4 * q))), (4, .ref a.oD), (3, .ref a.oA), (2, .ref a.am), (1, .ref a.aX), (0, .ref b)]) hx hb dL_law_518 hl (by decide) rfl (fun ls hl => ?_)
    refine lv_aload_n hx hb dL_law_520 rfl (lv_at hl 4 rfl) ?_
    refine lv_aload_n hx hb dL_law_521 rfl (lv_at hl 6 rfl) ?_
    refine lv_iload hx hb dL_law_522 (lv_at hl 1 rfl) ?_
    refine lv_iconst (v := 1) hx hb dL_law_524 (by decide) ?_
    refine lv_iadd hx hb dL_law_525 ?_
    refine m_sld (v := xs (4 * q + 1)) hx hb hC.hX hC.hbl hC.hbA hS (k := 4 * q + 1) (m_add rfl rfl) (by omega) hC.hL rfl dL_law_526 ?_
    refine lv_aload_n hx hb dL_law_527 rfl (lv_at hl 6 rfl) ?_
    refine lv_iload hx hb dL_law_528 (lv_at hl 1 rfl) ?_
    refine lv_iconst (v := 2) hx hb dL_law_530 (by decide) ?_
    refine lv_iadd hx hb dL_law_531 ?_
    refine m_sld (v := xs (4 * q + 2)) hx hb hC.hX hC.hbl hC.hbA hS (k := 4 * q + 2) (m_add rfl rfl) (by omega) hC.hL rfl dL_law_532 ?_
    refine lv_aload_n hx hb dL_law_533 rfl (lv_at hl 6 rfl) ?_
    refine lv_iload hx hb dL_law_534 (lv_at hl 1 rfl) ?_
    refine lv_iconst (v := 3) hx hb dL_law_536 (by decide) ?_
    refine lv_iadd hx hb dL_law_537 ?_
    refine m_sld (v := xs (4 * q + 3)) hx hb hC.hX hC.hbl hC.hbA hS (k := 4 * q + 3) (m_add rfl rfl) (by omega) hC.hL rfl dL_law_538 ?_
    refine lw_m (s1 := S9) (t1 := s9) (Wn := (LCh cy a S9 S9)) hC (c_X8_pour_ok l G cy a.am a.aS a.aBf a.aAs a.aSv a.aPa a.aOu a.aTx a.aCo s9.ct s9.nb s9.LN ((s9.x0).1) s9.CM s9.hs s9.th (bI (s9.x0).2) s9.ep s9.fc s9.σ (xs (4 * q + 1)) (xs (4 * q + 2)) (xs (4 * q + 3)) s9.fB s9.fP hI.1.1 hct e1 (inR_m1 (by decide) q6) q9 z0) (cwV 3 hC.S9.2.2.2.2 gL_law_X8_pour rfl rfl rfl (by decide +kernel) ⟨Nat.le_of_ble_eq_true rfl, Nat.le_of_ble_eq_true rfl⟩) [15, 16, 17, 20] rfl (by decide) (SameR.cons (SameR.cons (SameR.cons (SameR.cons SameR.nil)))) (by subst eS; rfl) hP hD hS rfl hl.1 rfl (Nat.le_of_ble_eq_true rfl) ⟨hcn, hsn⟩ dL_law_539 (fun H locs hP hD hS => ?_)
    refine lv_istore (lv' := [(7, .int (hB s9.σ (bx (xs (4 * q + 1))) * (xs (4 * q + 3)) / vB s9.σ (bx (xs (4 * q + 1))))), (6, .int 0), (5, .int (nI (4 * q))), (4, .ref a.oD), (3, .ref a.oA), (2, .ref a.am), (1, .ref a.aX), (0, .ref b)]) hx hb dL_law_542 hl (by decide) rfl (fun ls hl => ?_)
    refine lv_aload_n hx hb dL_law_544 rfl (lv_at hl 5 rfl) ?_
    refine lw_thrown (s1 := S9) (t1 := S9) (k := 0) hC hP (by subst eS; rfl) hl.1 (Nat.le_of_ble_eq_true rfl) ⟨hcn, hsn⟩ dL_law_545 ?_
    refine lv_iload hx hb dL_law_548 (lv_at hl 1 rfl) ?_
    refine lv_icmp_eq (tgt := 555) hx hb dL_law_550 (by decide) (fun c_550 => ?_) (fun c_550 => ?_)
    rotate_left
    · exact absurd c_550 (by decide)
    refine lv_iload hx hb dL_law_555 (lv_at hl 1 rfl) ?_
    refine lv_if_ne (tgt := 572) hx hb dL_law_557 (by decide) (fun c_557 => ?_) (fun c_557 => ?_)
    · exact absurd c_557 (by decide)
    refine lv_aload_n hx hb dL_law_560 rfl (lv_at hl 4 rfl) ?_
    refine lv_iconst (v := 0) hx hb dL_law_561 (by decide) ?_
    refine lw_ldL (s1 := S9) (t1 := S9) (x := (heatOf (vB s9.σ) (hB s9.σ) (bx (xs (4 * q + 1))) (xs (4 * q + 3))).toInt64) hC hP (by subst eS; rfl) dL_law_562 ?_
    refine lv_iload hx hb dL_law_563 (lv_at hl 0 rfl) ?_
    refine lv_i2l hx hb dL_law_565 rfl ?_
    refine m_lcmp0 hx hb (congrArg Int32.toInt64 (if_pos q9)) dL_law_566 ?_
    refine lv_if_eq (tgt := 572) hx hb dL_law_567 (by decide) (fun c_567 => ?_) (fun c_567 => ?_)
    rotate_left
    · exact absurd c_567 (by decide)
    refine lv_goto (tgt := 2890) hx hb dL_law_572 (by decide) ?_
    refine W.widen (k := cells + 1) (n := slots + 6) (by omega) (by omega) ?_
    exact kk S9 H locs ls (LI.of (LI.push (σ' := traS (bx (xs (4 * q + 1))) (bx (xs (4 * q + 2))) (xs (4 * q + 3)) s9.σ) hI (by have h9 := appC_inv (k := 3) (a := xs (4 * q + 1)) (b := xs (4 * q + 2)) (c := xs (4 * q + 3)) hI.1 (by omega) (fltC_3.trans z0); rw [appC_3] at h9; exact h9.mono (by omega))) (by subst eS; rfl) (by subst eS; rfl) (by subst eS; rfl) (by subst eS; rfl) (by subst eS; rfl) (by subst eS; rfl) (by subst eS; rfl) (by subst eS; rfl) (by subst eS; rfl) (by subst eS; rfl) (by subst eS; rfl) (by subst eS; rfl) (by subst eS; rfl) (by subst eS; rfl) (by subst eS; rfl)) hP hD hS (lv_sub hl [2, 3, 4, 5, 6, 7] rfl)
  · obtain ⟨S9, eS⟩ : ∃ z : LwS, z = (LwS.mk s9.σ s9.υ s9.ς s9.hs s9.ep s9.fc s9.ml (mcP (traF (nB s9.σ) (vB s9.σ) (xs (4 * q + 1)) (xs (4 * q + 2)) (xs (4 * q + 3)))) s9.nx s9.ct s9.nb s9.n s9.LN s9.CM s9.ρ s9.x s9.x0 s9.f s9.gk s9.g1 s9.g2 s9.g3 s9.fb (encS s9.σ) s9.fA s9.fV s9.fP s9.fO s9.g s9.fo s9.fd) := ⟨_, rfl⟩
    refine lv_aload_n hx hb dL_law_495 rfl (lv_at hl 4 rfl) ?_
    refine lv_aload_n hx hb dL_law_496 rfl (lv_at hl 5 rfl) ?_
    refine lv_iload hx hb dL_law_497 (lv_at hl 0 rfl) ?_
    refine lv_iconst (v := 1) hx hb dL_law_499 (by decide) ?_
    refine lv_iadd hx hb dL_law_500 ?_
    refine m_sld (v := xs (4 * q + 1)) hx hb hC.hX hC.hbl hC.hbA hS (k := 4 * q + 1) (m_add rfl rfl) (by omega) hC.hL rfl dL_law_501 ?_
    refine lv_aload_n hx hb dL_law_502 rfl (lv_at hl 5 rfl) ?_
    refine lv_iload hx hb dL_law_503 (lv_at hl 0 rfl) ?_
    refine lv_iconst (v := 2) hx hb dL_law_505 (by decide) ?_
    refine lv_iadd hx hb dL_law_506 ?_
    refine m_sld (v := xs (4 * q + 2)) hx hb hC.hX hC.hbl hC.hbA hS (k := 4 * q + 2) (m_add rfl rfl) (by omega) hC.hL rfl dL_law_507 ?_
    refine lv_aload_n hx hb dL_law_508 rfl (lv_at hl 5 rfl) ?_
    refine lv_iload hx hb dL_law_509 (lv_at hl 0 rfl) ?_
    refine lv_iconst (v := 3) hx hb dL_law_511 (by decide) ?_
    refine lv_iadd hx hb dL_law_512 ?_
    refine m_sld (v := xs (4 * q + 3)) hx hb hC.hX hC.hbl hC.hbA hS (k := 4 * q + 3) (m_add rfl rfl) (by omega) hC.hL rfl dL_law_513 ?_
    refine lv_aload_n hx hb dL_law_514 rfl (lv_at hl 2 rfl) ?_
    refine lw_w (mc := 1) (ms := 6) (Wc := (LCh cy a s9 s9)) (Wn := (LCh cy a S9 s9)) hC (w_pour_1 l G cy kS vS a.aX a.na a.tr a.sn s9.hs a.hi a.sc s9.ep s9.fc a.ob s9.σ (xs (4 * q + 1)) (xs (4 * q + 2)) (xs (4 * q + 3)) a.oA s9.fo hC.hl9 hI.1.1 z1) (vx_cwSW 5 hC.S9.2.2.2.2 gL_law_L_pour rfl rfl rfl (by decide +kernel) ⟨Nat.le_of_ble_eq_true rfl, Nat.le_of_ble_eq_true rfl⟩) [0, 1, 24] rfl (by decide) (SameL.cons SameA.rf (SameL.cons SameA.rf (SameL.cons SameA.rf SameL.nil))) (by subst eS; rfl) hP hD hS rfl hl.1 rfl (Nat.le_of_ble_eq_true rfl) ⟨hc1, hs1⟩ dL_law_515 (fun H locs hP hD hS => ?_)
    refine lv_istore (lv' := [(6, .int 1), (5, .int (nI (4 * q))), (4, .ref a.oD), (3, .ref a.oA), (2, .ref a.am), (1, .ref a.aX), (0, .ref b)]) hx hb dL_law_518 hl (by decide) rfl (fun ls hl => ?_)
    refine lv_aload_n hx hb dL_law_520 rfl (lv_at hl 4 rfl) ?_
    refine lv_aload_n hx hb dL_law_521 rfl (lv_at hl 6 rfl) ?_
    refine lv_iload hx hb dL_law_522 (lv_at hl 1 rfl) ?_
    refine lv_iconst (v := 1) hx hb dL_law_524 (by decide) ?_
    refine lv_iadd hx hb dL_law_525 ?_
    refine m_sld (v := xs (4 * q + 1)) hx hb hC.hX hC.hbl hC.hbA hS (k := 4 * q + 1) (m_add rfl rfl) (by omega) hC.hL rfl dL_law_526 ?_
    refine lv_aload_n hx hb dL_law_527 rfl (lv_at hl 6 rfl) ?_
    refine lv_iload hx hb dL_law_528 (lv_at hl 1 rfl) ?_
    refine lv_iconst (v := 2) hx hb dL_law_530 (by decide) ?_
    refine lv_iadd hx hb dL_law_531 ?_
    refine m_sld (v := xs (4 * q + 2)) hx hb hC.hX hC.hbl hC.hbA hS (k := 4 * q + 2) (m_add rfl rfl) (by omega) hC.hL rfl dL_law_532 ?_
    refine lv_aload_n hx hb dL_law_533 rfl (lv_at hl 6 rfl) ?_
    refine lv_iload hx hb dL_law_534 (lv_at hl 1 rfl) ?_
    refine lv_iconst (v := 3) hx hb dL_law_536 (by decide) ?_
    refine lv_iadd hx hb dL_law_537 ?_
    refine m_sld (v := xs (4 * q + 3)) hx hb hC.hX hC.hbl hC.hbA hS (k := 4 * q + 3) (m_add rfl rfl) (by omega) hC.hL rfl dL_law_538 ?_
    refine lw_m (s1 := S9) (t1 := s9) (Wn := (LCh cy a S9 S9)) hC (c_X8_pour_no l G cy a.am a.aS a.aBf a.aAs a.aSv a.aPa a.aOu a.aTx a.aCo s9.ct s9.nb s9.LN ((s9.x0).1) s9.CM s9.hs s9.th (bI (s9.x0).2) s9.ep s9.fc s9.σ (xs (4 * q + 1)) (xs (4 * q + 2)) (xs (4 * q + 3)) s9.fB hI.1.1 (by rw [z1]; decide) (by rw [z1]; decide)) (cwV 3 hC.S9.2.2.2.2 gL_law_X8_pour rfl rfl rfl (by decide +kernel) ⟨Nat.le_of_ble_eq_true rfl, Nat.le_of_ble_eq_true rfl⟩) [15, 16, 17] rfl (by decide) (SameR.cons (SameR.cons (SameR.cons SameR.nil))) (by subst eS; rfl) hP hD hS rfl hl.1 rfl (Nat.le_of_ble_eq_true rfl) ⟨hc1, hs1⟩ dL_law_539 (fun H locs hP hD hS => ?_)
    refine lv_istore (lv' := [(7, .int 0), (6, .int 1), (5, .int (nI (4 * q))), (4, .ref a.oD), (3, .ref a.oA), (2, .ref a.am), (1, .ref a.aX), (0, .ref b)]) hx hb dL_law_542 hl (by decide) rfl (fun ls hl => ?_)
    refine lv_aload_n hx hb dL_law_544 rfl (lv_at hl 5 rfl) ?_
    refine lw_thrown (s1 := S9) (t1 := S9) (k := mcP (traF (nB s9.σ) (vB s9.σ) (xs (4 * q + 1)) (xs (4 * q + 2)) (xs (4 * q + 3)))) hC hP (by subst eS; rfl) hl.1 (Nat.le_of_ble_eq_true rfl) ⟨hc1, hs1⟩ dL_law_545 ?_
    refine lv_iload hx hb dL_law_548 (lv_at hl 1 rfl) ?_
    refine lv_icmp_eq (tgt := 555) hx hb dL_law_550 (by decide) (fun c_550 => ?_) (fun c_550 => ?_)
    rotate_left
    · exact absurd (by rw [z1]; rfl) c_550
    refine lv_iload hx hb dL_law_555 (lv_at hl 1 rfl) ?_
    refine lv_if_ne (tgt := 572) hx hb dL_law_557 (by decide) (fun c_557 => ?_) (fun c_557 => ?_)
    rotate_left
    · exact absurd c_557 (by decide)
    refine lv_goto (tgt := 2890) hx hb dL_law_572 (by decide) ?_
    exact kk S9 H locs ls (LI.of (LI.mono hI (by omega)) (by subst eS; rfl) (by subst eS; rfl) (by subst eS; rfl) (by subst eS; rfl) (by subst eS; rfl) (by subst eS; rfl) (by subst eS; rfl) (by subst eS; rfl) (by subst eS; rfl) (by subst eS; rfl) (by subst eS; rfl) (by subst eS; rfl) (by subst eS; rfl) (by subst eS; rfl) (by subst eS; rfl)) hP hD hS (lv_sub hl [2, 3, 4, 5, 6, 7] rfl)
  · obtain ⟨S9, eS⟩ : ∃ z : LwS, z = (LwS.mk s9.σ s9.υ s9.ς s9.hs s9.ep s9.fc s9.ml (mcP (traF (nB s9.σ) (vB s9.σ) (xs (4 * q + 1)) (xs (4 * q + 2)) (xs (4 * q + 3)))) s9.nx s9.ct s9.nb s9.n s9.LN s9.CM s9.ρ s9.x s9.x0 s9.f s9.gk s9.g1 s9.g2 s9.g3 s9.fb (encS s9.σ) s9.fA s9.fV s9.fP s9.fO s9.g s9.fo s9.fd) := ⟨_, rfl⟩
    refine lv_aload_n hx hb dL_law_495 rfl (lv_at hl 4 rfl) ?_
    refine lv_aload_n hx hb dL_law_496 rfl (lv_at hl 5 rfl) ?_
    refine lv_iload hx hb dL_law_497 (lv_at hl 0 rfl) ?_
    refine lv_iconst (v := 1) hx hb dL_law_499 (by decide) ?_
    refine lv_iadd hx hb dL_law_500 ?_
    refine m_sld (v := xs (4 * q + 1)) hx hb hC.hX hC.hbl hC.hbA hS (k := 4 * q + 1) (m_add rfl rfl) (by omega) hC.hL rfl dL_law_501 ?_
    refine lv_aload_n hx hb dL_law_502 rfl (lv_at hl 5 rfl) ?_
    refine lv_iload hx hb dL_law_503 (lv_at hl 0 rfl) ?_
    refine lv_iconst (v := 2) hx hb dL_law_505 (by decide) ?_
    refine lv_iadd hx hb dL_law_506 ?_
    refine m_sld (v := xs (4 * q + 2)) hx hb hC.hX hC.hbl hC.hbA hS (k := 4 * q + 2) (m_add rfl rfl) (by omega) hC.hL rfl dL_law_507 ?_
    refine lv_aload_n hx hb dL_law_508 rfl (lv_at hl 5 rfl) ?_
    refine lv_iload hx hb dL_law_509 (lv_at hl 0 rfl) ?_
    refine lv_iconst (v := 3) hx hb dL_law_511 (by decide) ?_
    refine lv_iadd hx hb dL_law_512 ?_
    refine m_sld (v := xs (4 * q + 3)) hx hb hC.hX hC.hbl hC.hbA hS (k := 4 * q + 3) (m_add rfl rfl) (by omega) hC.hL rfl dL_law_513 ?_
    refine lv_aload_n hx hb dL_law_514 rfl (lv_at hl 2 rfl) ?_
    refine lw_w (mc := 1) (ms := 6) (Wc := (LCh cy a s9 s9)) (Wn := (LCh cy a S9 s9)) hC (w_pour_2 l G cy kS vS a.aX a.na a.tr a.sn s9.hs a.hi a.sc s9.ep s9.fc a.ob s9.σ (xs (4 * q + 1)) (xs (4 * q + 2)) (xs (4 * q + 3)) a.oA s9.fo hC.hl9 hI.1.1 z2) (vx_cwSW 5 hC.S9.2.2.2.2 gL_law_L_pour rfl rfl rfl (by decide +kernel) ⟨Nat.le_of_ble_eq_true rfl, Nat.le_of_ble_eq_true rfl⟩) [0, 1, 24] rfl (by decide) (SameL.cons SameA.rf (SameL.cons SameA.rf (SameL.cons SameA.rf SameL.nil))) (by subst eS; rfl) hP hD hS rfl hl.1 rfl (Nat.le_of_ble_eq_true rfl) ⟨hc1, hs1⟩ dL_law_515 (fun H locs hP hD hS => ?_)
    refine lv_istore (lv' := [(6, .int 2), (5, .int (nI (4 * q))), (4, .ref a.oD), (3, .ref a.oA), (2, .ref a.am), (1, .ref a.aX), (0, .ref b)]) hx hb dL_law_518 hl (by decide) rfl (fun ls hl => ?_)
    refine lv_aload_n hx hb dL_law_520 rfl (lv_at hl 4 rfl) ?_
    refine lv_aload_n hx hb dL_law_521 rfl (lv_at hl 6 rfl) ?_
    refine lv_iload hx hb dL_law_522 (lv_at hl 1 rfl) ?_
    refine lv_iconst (v := 1) hx hb dL_law_524 (by decide) ?_
    refine lv_iadd hx hb dL_law_525 ?_
    refine m_sld (v := xs (4 * q + 1)) hx hb hC.hX hC.hbl hC.hbA hS (k := 4 * q + 1) (m_add rfl rfl) (by omega) hC.hL rfl dL_law_526 ?_
    refine lv_aload_n hx hb dL_law_527 rfl (lv_at hl 6 rfl) ?_
    refine lv_iload hx hb dL_law_528 (lv_at hl 1 rfl) ?_
    refine lv_iconst (v := 2) hx hb dL_law_530 (by decide) ?_
    refine lv_iadd hx hb dL_law_531 ?_
    refine m_sld (v := xs (4 * q + 2)) hx hb hC.hX hC.hbl hC.hbA hS (k := 4 * q + 2) (m_add rfl rfl) (by omega) hC.hL rfl dL_law_532 ?_
    refine lv_aload_n hx hb dL_law_533 rfl (lv_at hl 6 rfl) ?_
    refine lv_iload hx hb dL_law_534 (lv_at hl 1 rfl) ?_
    refine lv_iconst (v := 3) hx hb dL_law_536 (by decide) ?_
    refine lv_iadd hx hb dL_law_537 ?_
    refine m_sld (v := xs (4 * q + 3)) hx hb hC.hX hC.hbl hC.hbA hS (k := 4 * q + 3) (m_add rfl rfl) (by omega) hC.hL rfl dL_law_538 ?_
    refine lw_m (s1 := S9) (t1 := s9) (Wn := (LCh cy a S9 S9)) hC (c_X8_pour_no l G cy a.am a.aS a.aBf a.aAs a.aSv a.aPa a.aOu a.aTx a.aCo s9.ct s9.nb s9.LN ((s9.x0).1) s9.CM s9.hs s9.th (bI (s9.x0).2) s9.ep s9.fc s9.σ (xs (4 * q + 1)) (xs (4 * q + 2)) (xs (4 * q + 3)) s9.fB hI.1.1 (by rw [z2]; decide) (by rw [z2]; decide)) (cwV 3 hC.S9.2.2.2.2 gL_law_X8_pour rfl rfl rfl (by decide +kernel) ⟨Nat.le_of_ble_eq_true rfl, Nat.le_of_ble_eq_true rfl⟩) [15, 16, 17] rfl (by decide) (SameR.cons (SameR.cons (SameR.cons SameR.nil))) (by subst eS; rfl) hP hD hS rfl hl.1 rfl (Nat.le_of_ble_eq_true rfl) ⟨hc1, hs1⟩ dL_law_539 (fun H locs hP hD hS => ?_)
    refine lv_istore (lv' := [(7, .int 0), (6, .int 2), (5, .int (nI (4 * q))), (4, .ref a.oD), (3, .ref a.oA), (2, .ref a.am), (1, .ref a.aX), (0, .ref b)]) hx hb dL_law_542 hl (by decide) rfl (fun ls hl => ?_)
    refine lv_aload_n hx hb dL_law_544 rfl (lv_at hl 5 rfl) ?_
    refine lw_thrown (s1 := S9) (t1 := S9) (k := mcP (traF (nB s9.σ) (vB s9.σ) (xs (4 * q + 1)) (xs (4 * q + 2)) (xs (4 * q + 3)))) hC hP (by subst eS; rfl) hl.1 (Nat.le_of_ble_eq_true rfl) ⟨hc1, hs1⟩ dL_law_545 ?_
    refine lv_iload hx hb dL_law_548 (lv_at hl 1 rfl) ?_
    refine lv_icmp_eq (tgt := 555) hx hb dL_law_550 (by decide) (fun c_550 => ?_) (fun c_550 => ?_)
    rotate_left
    · exact absurd (by rw [z2]; rfl) c_550
    refine lv_iload hx hb dL_law_555 (lv_at hl 1 rfl) ?_
    refine lv_if_ne (tgt := 572) hx hb dL_law_557 (by decide) (fun c_557 => ?_) (fun c_557 => ?_)
    rotate_left
    · exact absurd c_557 (by decide)
    refine lv_goto (tgt := 2890) hx hb dL_law_572 (by decide) ?_
    exact kk S9 H locs ls (LI.of (LI.mono hI (by omega)) (by subst eS; rfl) (by subst eS; rfl) (by subst eS; rfl) (by subst eS; rfl) (by subst eS; rfl) (by subst eS; rfl) (by subst eS; rfl) (by subst eS; rfl) (by subst eS; rfl) (by subst eS; rfl) (by subst eS; rfl) (by subst eS; rfl) (by subst eS; rfl) (by subst eS; rfl) (by subst eS; rfl)) hP hD hS (lv_sub hl [2, 3, 4, 5, 6, 7] rfl)
  · obtain ⟨S9, eS⟩ : ∃ z : LwS, z = (LwS.mk s9.σ s9.υ s9.ς s9.hs s9.ep s9.fc s9.ml (mcP (traF (nB s9.σ) (vB s9.σ) (xs (4 * q + 1)) (xs (4 * q + 2)) (xs (4 * q + 3)))) s9.nx s9.ct s9.nb s9.n s9.LN s9.CM s9.ρ s9.x s9.x0 s9.f s9.gk s9.g1 s9.g2 s9.g3 s9.fb (encS s9.σ) s9.fA s9.fV s9.fP s9.fO s9.g s9.fo s9.fd) := ⟨_, rfl⟩
    refine lv_aload_n hx hb dL_law_495 rfl (lv_at hl 4 rfl) ?_
    refine lv_aload_n hx hb dL_law_496 rfl (lv_at hl 5 rfl) ?_
    refine lv_iload hx hb dL_law_497 (lv_at hl 0 rfl) ?_
    refine lv_iconst (v := 1) hx hb dL_law_499 (by decide) ?_
    refine lv_iadd hx hb dL_law_500 ?_
    refine m_sld (v := xs (4 * q + 1)) hx hb hC.hX hC.hbl hC.hbA hS (k := 4 * q + 1) (m_add rfl rfl) (by omega) hC.hL rfl dL_law_501 ?_
    refine lv_aload_n hx hb dL_law_502 rfl (lv_at hl 5 rfl) ?_
    refine lv_iload hx hb dL_law_503 (lv_at hl 0 rfl) ?_
    refine lv_iconst (v := 2) hx hb dL_law_505 (by decide) ?_
    refine lv_iadd hx hb dL_law_506 ?_
    refine m_sld (v := xs (4 * q + 2)) hx hb hC.hX hC.hbl hC.hbA hS (k := 4 * q + 2) (m_add rfl rfl) (by omega) hC.hL rfl dL_law_507 ?_
    refine lv_aload_n hx hb dL_law_508 rfl (lv_at hl 5 rfl) ?_
    refine lv_iload hx hb dL_law_509 (lv_at hl 0 rfl) ?_
    refine lv_iconst (v := 3) hx hb dL_law_511 (by decide) ?_
    refine lv_iadd hx hb dL_law_512 ?_
    refine m_sld (v := xs (4 * q + 3)) hx hb hC.hX hC.hbl hC.hbA hS (k := 4 * q + 3) (m_add rfl rfl) (by omega) hC.hL rfl dL_law_513 ?_
    refine lv_aload_n hx hb dL_law_514 rfl (lv_at hl 2 rfl) ?_
    refine lw_w (mc := 1) (ms := 6) (Wc := (LCh cy a s9 s9)) (Wn := (LCh cy a S9 s9)) hC (w_pour_4 l G cy kS vS a.aX a.na a.tr a.sn s9.hs a.hi a.sc s9.ep s9.fc a.ob s9.σ (xs (4 * q + 1)) (xs (4 * q + 2)) (xs (4 * q + 3)) a.oA s9.fo hC.hl9 hI.1.1 z4) (vx_cwSW 5 hC.S9.2.2.2.2 gL_law_L_pour rfl rfl rfl (by decide +kernel) ⟨Nat.le_of_ble_eq_true rfl, Nat.le_of_ble_eq_true rfl⟩) [0, 1, 24] rfl (by decide) (SameL.cons SameA.rf (SameL.cons SameA.rf (SameL.cons SameA.rf SameL.nil))) (by subst eS; rfl) hP hD hS rfl hl.1 rfl (Nat.le_of_ble_eq_true rfl) ⟨hc1, hs1⟩ dL_law_515 (fun H locs hP hD hS => ?_)
    refine lv_istore (lv' := [(6, .int 3), (5, .int (nI (4 * q))), (4, .ref a.oD), (3, .ref a.oA), (2, .ref a.am), (1, .ref a.aX), (0, .ref b)]) hx hb dL_law_518 hl (by decide) rfl (fun ls hl => ?_)
    refine lv_aload_n hx hb dL_law_520 rfl (lv_at hl 4 rfl) ?_
    refine lv_aload_n hx hb dL_law_521 rfl (lv_at hl 6 rfl) ?_
    refine lv_iload hx hb dL_law_522 (lv_at hl 1 rfl) ?_
    refine lv_iconst (v := 1) hx hb dL_law_524 (by decide) ?_
    refine lv_iadd hx hb dL_law_525 ?_
    refine m_sld (v := xs (4 * q + 1)) hx hb hC.hX hC.hbl hC.hbA hS (k := 4 * q + 1) (m_add rfl rfl) (by omega) hC.hL rfl dL_law_526 ?_
    refine lv_aload_n hx hb dL_law_527 rfl (lv_at hl 6 rfl) ?_
    refine lv_iload hx hb dL_law_528 (lv_at hl 1 rfl) ?_
    refine lv_iconst (v := 2) hx hb dL_law_530 (by decide) ?_
    refine lv_iadd hx hb dL_law_531 ?_
    refine m_sld (v := xs (4 * q + 2)) hx hb hC.hX hC.hbl hC.hbA hS (k := 4 * q + 2) (m_add rfl rfl) (by omega) hC.hL rfl dL_law_532 ?_
    refine lv_aload_n hx hb dL_law_533 rfl (lv_at hl 6 rfl) ?_
    refine lv_iload hx hb dL_law_534 (lv_at hl 1 rfl) ?_
    refine lv_iconst (v := 3) hx hb dL_law_536 (by decide) ?_
    refine lv_iadd hx hb dL_law_537 ?_
    refine m_sld (v := xs (4 * q + 3)) hx hb hC.hX hC.hbl hC.hbA hS (k := 4 * q + 3) (m_add rfl rfl) (by omega) hC.hL rfl dL_law_538 ?_
    refine lw_m (s1 := S9) (t1 := s9) (Wn := (LCh cy a S9 S9)) hC (c_X8_pour_no l G cy a.am a.aS a.aBf a.aAs a.aSv a.aPa a.aOu a.aTx a.aCo s9.ct s9.nb s9.LN ((s9.x0).1) s9.CM s9.hs s9.th (bI (s9.x0).2) s9.ep s9.fc s9.σ (xs (4 * q + 1)) (xs (4 * q + 2)) (xs (4 * q + 3)) s9.fB hI.1.1 (by rw [z4]; decide) (by rw [z4]; decide)) (cwV 3 hC.S9.2.2.2.2 gL_law_X8_pour rfl rfl rfl (by decide +kernel) ⟨Nat.le_of_ble_eq_true rfl, Nat.le_of_ble_eq_true rfl⟩) [15, 16, 17] rfl (by decide) (SameR.cons (SameR.cons (SameR.cons SameR.nil))) (by subst eS; rfl) hP hD hS rfl hl.1 rfl (Nat.le_of_ble_eq_true rfl) ⟨hc1, hs1⟩ dL_law_539 (fun H locs hP hD hS => ?_)
    refine lv_istore (lv' := [(7, .int 0), (6, .int 3), (5, .int (nI (4 * q))), (4, .ref a.oD), (3, .ref a.oA), (2, .ref a.am), (1, .ref a.aX), (0, .ref b)]) hx hb dL_law_542 hl (by decide) rfl (fun ls hl => ?_)
    refine lv_aload_n hx hb dL_law_544 rfl (lv_at hl 5 rfl) ?_
    refine lw_thrown (s1 := S9) (t1 := S9) (k := mcP (traF (nB s9.σ) (vB s9.σ) (xs (4 * q + 1)) (xs (4 * q + 2)) (xs (4 * q + 3)))) hC hP (by subst eS; rfl) hl.1 (Nat.le_of_ble_eq_true rfl) ⟨hc1, hs1⟩ dL_law_545 ?_
    refine lv_iload hx hb dL_law_548 (lv_at hl 1 rfl) ?_
    refine lv_icmp_eq (tgt := 555) hx hb dL_law_550 (by decide) (fun c_550 => ?_) (fun c_550 => ?_)
    rotate_left
    · exact absurd (by rw [z4]; rfl) c_550
    refine lv_iload hx hb dL_law_555 (lv_at hl 1 rfl) ?_
    refine lv_if_ne (tgt := 572) hx hb dL_law_557 (by decide) (fun c_557 => ?_) (fun c_557 => ?_)
    rotate_left
    · exact absurd c_557 (by decide)
    refine lv_goto (tgt := 2890) hx hb dL_law_572 (by decide) ?_
    exact kk S9 H locs ls (LI.of (LI.mono hI (by omega)) (by subst eS; rfl) (by subst eS; rfl) (by subst eS; rfl) (by subst eS; rfl) (by subst eS; rfl) (by subst eS; rfl) (by subst eS; rfl) (by subst eS; rfl) (by subst eS; rfl) (by subst eS; rfl) (by subst eS; rfl) (by subst eS; rfl) (by subst eS; rfl) (by subst eS; rfl) (by subst eS; rfl)) hP hD hS (lv_sub hl [2, 3, 4, 5, 6, 7] rfl)
  · obtain ⟨S9, eS⟩ : ∃ z : LwS, z = (LwS.mk s9.σ s9.υ s9.ς s9.hs s9.ep s9.fc s9.ml (mcP (traF (nB s9.σ) (vB s9.σ) (xs (4 * q + 1)) (xs (4 * q + 2)) (xs (4 * q + 3)))) s9.nx s9.ct s9.nb s9.n s9.LN s9.CM s9.ρ s9.x s9.x0 s9.f s9.gk s9.g1 s9.g2 s9.g3 s9.fb (encS s9.σ) s9.fA s9.fV s9.fP s9.fO s9.g s9.fo s9.fd) := ⟨_, rfl⟩
    refine lv_aload_n hx hb dL_law_495 rfl (lv_at hl 4 rfl) ?_
    refine lv_aload_n hx hb dL_law_496 rfl (lv_at hl 5 rfl) ?_
    refine lv_iload hx hb dL_law_497 (lv_at hl 0 rfl) ?_
    refine lv_iconst (v := 1) hx hb dL_law_499 (by decide) ?_
    refine lv_iadd hx hb dL_law_500 ?_
    refine m_sld (v := xs (4 * q + 1)) hx hb hC.hX hC.hbl hC.hbA hS (k := 4 * q + 1) (m_add rfl rfl) (by omega) hC.hL rfl dL_law_501 ?_
    refine lv_aload_n hx hb dL_law_502 rfl (lv_at hl 5 rfl) ?_
    refine lv_iload hx hb dL_law_503 (lv_at hl 0 rfl) ?_
    refine lv_iconst (v := 2) hx hb dL_law_505 (by decide) ?_
    refine lv_iadd hx hb dL_law_506 ?_
    refine m_sld (v := xs (4 * q + 2)) hx hb hC.hX hC.hbl hC.hbA hS (k := 4 * q + 2) (m_add rfl rfl) (by omega) hC.hL rfl dL_law_507 ?_
    refine lv_aload_n hx hb dL_law_508 rfl (lv_at hl 5 rfl) ?_
    refine lv_iload hx hb dL_law_509 (lv_at hl 0 rfl) ?_
    refine lv_iconst (v := 3) hx hb dL_law_511 (by decide) ?_
    refine lv_iadd hx hb dL_law_512 ?_
    refine m_sld (v := xs (4 * q + 3)) hx hb hC.hX hC.hbl hC.hbA hS (k := 4 * q + 3) (m_add rfl rfl) (by omega) hC.hL rfl dL_law_513 ?_
    refine lv_aload_n hx hb dL_law_514 rfl (lv_at hl 2 rfl) ?_
    refine lw_w (mc := 1) (ms := 6) (Wc := (LCh cy a s9 s9)) (Wn := (LCh cy a S9 s9)) hC (w_pour_5 l G cy kS vS a.aX a.na a.tr a.sn s9.hs a.hi a.sc s9.ep s9.fc a.ob s9.σ (xs (4 * q + 1)) (xs (4 * q + 2)) (xs (4 * q + 3)) a.oA s9.fo hC.hl9 hI.1.1 z5) (vx_cwSW 5 hC.S9.2.2.2.2 gL_law_L_pour rfl rfl rfl (by decide +kernel) ⟨Nat.le_of_ble_eq_true rfl, Nat.le_of_ble_eq_true rfl⟩) [0, 1, 24] rfl (by decide) (SameL.cons SameA.rf (SameL.cons SameA.rf (SameL.cons SameA.rf SameL.nil))) (by subst eS; rfl) hP hD hS rfl hl.1 rfl (Nat.le_of_ble_eq_true rfl) ⟨hc1, hs1⟩ dL_law_515 (fun H locs hP hD hS => ?_)
    refine lv_istore (lv' := [(6, .int 4), (5, .int (nI (4 * q))), (4, .ref a.oD), (3, .ref a.oA), (2, .ref a.am), (1, .ref a.aX), (0, .ref b)]) hx hb dL_law_518 hl (by decide) rfl (fun ls hl => ?_)
    refine lv_aload_n hx hb dL_law_520 rfl (lv_at hl 4 rfl) ?_
    refine lv_aload_n hx hb dL_law_521 rfl (lv_at hl 6 rfl) ?_
    refine lv_iload hx hb dL_law_522 (lv_at hl 1 rfl) ?_
    refine lv_iconst (v := 1) hx hb dL_law_524 (by decide) ?_
    refine lv_iadd hx hb dL_law_525 ?_
    refine m_sld (v := xs (4 * q + 1)) hx hb hC.hX hC.hbl hC.hbA hS (k := 4 * q + 1) (m_add rfl rfl) (by omega) hC.hL rfl dL_law_526 ?_
    refine lv_aload_n hx hb dL_law_527 rfl (lv_at hl 6 rfl) ?_
    refine lv_iload hx hb dL_law_528 (lv_at hl 1 rfl) ?_
    refine lv_iconst (v := 2) hx hb dL_law_530 (by decide) ?_
    refine lv_iadd hx hb dL_law_531 ?_
    refine m_sld (v := xs (4 * q + 2)) hx hb hC.hX hC.hbl hC.hbA hS (k := 4 * q + 2) (m_add rfl rfl) (by omega) hC.hL rfl dL_law_532 ?_
    refine lv_aload_n hx hb dL_law_533 rfl (lv_at hl 6 rfl) ?_
    refine lv_iload hx hb dL_law_534 (lv_at hl 1 rfl) ?_
    refine lv_iconst (v := 3) hx hb dL_law_536 (by decide) ?_
    refine lv_iadd hx hb dL_law_537 ?_
    refine m_sld (v := xs (4 * q + 3)) hx hb hC.hX hC.hbl hC.hbA hS (k := 4 * q + 3) (m_add rfl rfl) (by omega) hC.hL rfl dL_law_538 ?_
    refine lw_m (s1 := S9) (t1 := s9) (Wn := (LCh cy a S9 S9)) hC (c_X8_pour_no l G cy a.am a.aS a.aBf a.aAs a.aSv a.aPa a.aOu a.aTx a.aCo s9.ct s9.nb s9.LN ((s9.x0).1) s9.CM s9.hs s9.th (bI (s9.x0).2) s9.ep s9.fc s9.σ (xs (4 * q + 1)) (xs (4 * q + 2)) (xs (4 * q + 3)) s9.fB hI.1.1 (by rw [z5]; decide) (by rw [z5]; decide)) (cwV 3 hC.S9.2.2.2.2 gL_law_X8_pour rfl rfl rfl (by decide +kernel) ⟨Nat.le_of_ble_eq_true rfl, Nat.le_of_ble_eq_true rfl⟩) [15, 16, 17] rfl (by decide) (SameR.cons (SameR.cons (SameR.cons SameR.nil))) (by subst eS; rfl) hP hD hS rfl hl.1 rfl (Nat.le_of_ble_eq_true rfl) ⟨hc1, hs1⟩ dL_law_539 (fun H locs hP hD hS => ?_)
    refine lv_istore (lv' := [(7, .int 0), (6, .int 4), (5, .int (nI (4 * q))), (4, .ref a.oD), (3, .ref a.oA), (2, .ref a.am), (1, .ref a.aX), (0, .ref b)]) hx hb dL_law_542 hl (by decide) rfl (fun ls hl => ?_)
    refine lv_aload_n hx hb dL_law_544 rfl (lv_at hl 5 rfl) ?_
    refine lw_thrown (s1 := S9) (t1 := S9) (k := mcP (traF (nB s9.σ) (vB s9.σ) (xs (4 * q + 1)) (xs (4 * q + 2)) (xs (4 * q + 3)))) hC hP (by subst eS; rfl) hl.1 (Nat.le_of_ble_eq_true rfl) ⟨hc1, hs1⟩ dL_law_545 ?_
    refine lv_iload hx hb dL_law_548 (lv_at hl 1 rfl) ?_
    refine lv_icmp_eq (tgt := 555) hx hb dL_law_550 (by decide) (fun c_550 => ?_) (fun c_550 => ?_)
    rotate_left
    · exact absurd (by rw [z5]; rfl) c_550
    refine lv_iload hx hb dL_law_555 (lv_at hl 1 rfl) ?_
    refine lv_if_ne (tgt := 572) hx hb dL_law_557 (by decide) (fun c_557 => ?_) (fun c_557 => ?_)
    rotate_left
    · exact absurd c_557 (by decide)
    refine lv_goto (tgt := 2890) hx hb dL_law_572 (by decide) ?_
    exact kk S9 H locs ls (LI.of (LI.mono hI (by omega)) (by subst eS; rfl) (by subst eS; rfl) (by subst eS; rfl) (by subst eS; rfl) (by subst eS; rfl) (by subst eS; rfl) (by subst eS; rfl) (by subst eS; rfl) (by subst eS; rfl) (by subst eS; rfl) (by subst eS; rfl) (by subst eS; rfl) (by subst eS; rfl) (by subst eS; rfl) (by subst eS; rfl)) hP hD hS (lv_sub hl [2, 3, 4, 5, 6, 7] rfl)

set_option maxRecDepth 100000 in
set_option maxHeartbeats 4000000 in
theorem case_4 {p : Program} {l : Launch} {e : Env} {s : State} {m : MethodId} {below : List Frame} {meth : Method} {cq : Code} {G : va_G} {cy : Nat → ClassId} {kS vS : Nat → Nat} {A : Nat → Prop} {a : LA} {b L q : Nat} {xs : Nat → Int32} {Q : State → Prop} {n0 cells slots : Nat} (hC : LC l p s m meth cq G cy kS vS A b L xs) (hq : 4 * q + 4 ≤ L) (hn0 : n0 < 1000000) (hc1 : cells + 1 ≤ room_1.cells) (hs1 : slots + 6 ≤ room_1.slots) (kk : LGo p l e s m below meth cq G cy A a b q Q (n0 + 300) (cells + 1) (slots + 6) 2890) : LGo p l e s m below meth cq G cy A a b q Q n0 cells slots 575 := by
  intro s9 H locs ls hI hP hD hS hl
  obtain ⟨hx, hb, hml, hown, hts⟩ := id hC.S9
  have hL9 := hC.hL
  have hc0 : cells + 0 ≤ room_1.cells := Nat.le_of_succ_le hc1
  have hcn : cells ≤ room_1.cells := Nat.le_of_succ_le hc1
  have hs0 : slots + 0 ≤ room_1.slots := Nat.le_trans (Nat.le_add_right slots 6) hs1
  have hsn : slots ≤ room_1.slots := Nat.le_trans (Nat.le_add_right slots 6) hs1
  have ho := hI.1.1
  have hN0 := ho.1
  have hM0 := ho.2.1
  have hE0 := ho.2.2.1
  have hnx := hI.2.2.2.2.1
  have hct := hI.2.2.2.2.2.1
  rcases dukF_v (nB s9.σ) (nD s9.σ) (xs (4 * q + 1)) (xs (4 * q + 2)) (xs (4 * q + 3)) with z0 | z1 | z2 | z3
  · obtain ⟨-, q3, -, -, -, q6⟩ := dukF_0 hN0 z0
    obtain ⟨S9, eS⟩ : ∃ z : LwS, z = (LwS.mk (dukS (xs (4 * q + 1)) (xs (4 * q + 2)) (xs (4 * q + 3)) s9.σ) s9.υ s9.ς s9.hs s9.ep s9.fc s9.ml 0 ((s9.nx + 1) % 8) (kInc s9.ct) s9.nb s9.n s9.LN s9.CM (updR s9.ρ s9.nx s9.σ) s9.x s9.x0 s9.f s9.gk s9.g1 s9.g2 s9.g3 s9.fb (encS s9.σ) s9.fA s9.fV (pastP s9.ct s9.fP (encS s9.σ)) s9.fO s9.g (fun _ => (nI (nD s9.σ)).toInt64) s9.fd) := ⟨_, rfl⟩
    refine lv_aload_n hx hb dL_law_575 rfl (lv_at hl 4 rfl) ?_
    refine lv_aload_n hx hb dL_law_576 rfl (lv_at hl 5 rfl) ?_
    refine lv_iload hx hb dL_law_577 (lv_at hl 0 rfl) ?_
    refine lv_iconst (v := 1) hx hb dL_law_579 (by decide) ?_
    refine lv_iadd hx hb dL_law_580 ?_
    refine m_sld (v := xs (4 * q + 1)) hx hb hC.hX hC.hbl hC.hbA hS (k := 4 * q + 1) (m_add rfl rfl) (by omega) hC.hL rfl dL_law_581 ?_
    refine lv_aload_n hx hb dL_law_582 rfl (lv_at hl 5 rfl) ?_
    refine lv_iload hx hb dL_law_583 (lv_at hl 0 rfl) ?_
    refine lv_iconst (v := 2) hx hb dL_law_585 (by decide) ?_
    refine lv_iadd hx hb dL_law_586 ?_
    refine m_sld (v := xs (4 * q + 2)) hx hb hC.hX hC.hbl hC.hbA hS (k := 4 * q + 2) (m_add rfl rfl) (by omega) hC.hL rfl dL_law_587 ?_
    refine lv_aload_n hx hb dL_law_588 rfl (lv_at hl 5 rfl) ?_
    refine lv_iload hx hb dL_law_589 (lv_at hl 0 rfl) ?_
    refine lv_iconst (v := 3) hx hb dL_law_591 (by decide) ?_
    refine lv_iadd hx hb dL_law_592 ?_
    refine m_sld (v := xs (4 * q + 3)) hx hb hC.hX hC.hbl hC.hbA hS (k := 4 * q + 3) (m_add rfl rfl) (by omega) hC.hL rfl dL_law_593 ?_
    refine lv_aload_n hx hb dL_law_594 rfl (lv_at hl 2 rfl) ?_
    refine lw_w (mc := 0) (ms := 0) (Wc := (LCh cy a s9 s9)) (Wn := (LCh cy a S9 s9)) hC (w_addDuck_ok l G cy kS vS a.aX a.na a.tr a.sn s9.hs a.hi a.sc s9.ep s9.fc a.ob a.hA s9.nx s9.ct a.ra s9.ρ s9.σ (xs (4 * q + 1)) (xs (4 * q + 2)) (xs (4 * q + 3)) a.oA s9.fo hI.1.1 hnx hct q6 q3 z0) (vx_cwSW 5 hC.S9.2.2.2.2 gL_law_L_addDuck rfl rfl rfl (by decide +kernel) ⟨Nat.le_of_ble_eq_true rfl, Nat.le_of_ble_eq_true rfl⟩) [0, 1, 4, 5, 6, 24] rfl (by decide) (SameL.cons SameA.rf (SameL.cons SameA.st (SameL.cons SameA.one (SameL.cons SameA.rf (SameL.cons SameA.ring (SameL.cons SameA.one SameL.nil)))))) (by subst eS; rfl) hP hD hS rfl hl.1 rfl (Nat.le_of_ble_eq_true rfl) ⟨hc0, hs0⟩ dL_law_595 (fun H locs hP hD hS => ?_)
    refine lv_istore (lv' := [(6, .int 0), (5, .int (nI (4 * q))), (4, .ref a.oD), (3, .ref a.oA), (2, .ref a.am), (1, .ref a.aX), (0, .ref b)]) hx hb dL_law_598 hl (by decide) rfl (fun ls hl => ?_)
    refine lv_aload_n hx hb dL_law_600 rfl (lv_at hl 4 rfl) ?_
    refine lv_aload_n hx hb dL_law_601 rfl (lv_at hl 6 rfl) ?_
    refine lv_iload hx hb dL_law_602 (lv_at hl 1 rfl) ?_
    refine lv_iconst (v := 1) hx hb dL_law_604 (by decide) ?_
    refine lv_iadd hx hb dL_law_605 ?_
    refine m_sld (v := xs (4 * q + 1)) hx hb hC.hX hC.hbl hC.hbA hS (k := 4 * q + 1) (m_add rfl rfl) (by omega) hC.hL rfl dL_law_606 ?_
    refine lv_aload_n hx hb dL_law_607 rfl (lv_at hl 6 rfl) ?_
    refine lv_iload hx hb dL_law_608 (lv_at hl 1 rfl) ?_
    refine lv_iconst (v := 2) hx hb dL_law_610 (by decide) ?_
    refine lv_iadd hx hb dL_law_611 ?_
    refine m_sld (v := xs (4 * q + 2)) hx hb hC.hX hC.hbl hC.hbA hS (k := 4 * q + 2) (m_add rfl rfl) (by omega) hC.hL rfl dL_law_612 ?_
    refine lv_aload_n hx hb dL_law_613 rfl (lv_at hl 6 rfl) ?_
    refine lv_iload hx hb dL_law_614 (lv_at hl 1 rfl) ?_
    refine lv_iconst (v := 3) hx hb dL_law_616 (by decide) ?_
    refine lv_iadd hx hb dL_law_617 ?_
    refine m_sld (v := xs (4 * q + 3)) hx hb hC.hX hC.hbl hC.hbA hS (k := 4 * q + 3) (m_add rfl rfl) (by omega) hC.hL rfl dL_law_618 ?_
    refine lw_m (s1 := S9) (t1 := s9) (Wn := (LCh cy a S9 S9)) hC (c_X8_addDuck_ok l G cy a.am a.aS a.aBf a.aAs a.aSv a.aPa a.aOu a.aTx a.aCo s9.ct s9.nb s9.LN ((s9.x0).1) s9.CM s9.hs s9.th (bI (s9.x0).2) s9.ep s9.fc s9.σ (xs (4 * q + 1)) (xs (4 * q + 2)) (xs (4 * q + 3)) s9.fB s9.fP hI.1.1 hct q3 ((hI.1.2.2.2.1 (nD s9.σ) q6).2.2 (Nat.le_refl _)) q6 z0) (cwV 3 hC.S9.2.2.2.2 gL_law_X8_addDuck rfl rfl rfl (by decide +kernel) ⟨Nat.le_of_ble_eq_true rfl, Nat.le_of_ble_eq_true rfl⟩) [15, 16, 17, 20] rfl (by decide) (SameR.cons (SameR.cons (SameR.cons (SameR.cons SameR.nil)))) (by subst eS; rfl) hP hD hS rfl hl.1 rfl (Nat.le_of_ble_eq_true rfl) ⟨hcn, hsn⟩ dL_law_619 (fun H locs hP hD hS => ?_)
    refine lv_istore (lv' := [(7, .int (nI (nD s9.σ))), (6, .int 0), (5, .int (nI (4 * q))), (4, .ref a.oD), (3, .ref a.oA), (2, .ref a.am), (1, .ref a.aX), (0, .ref b)]) hx hb dL_law_622 hl (by decide) rfl (fun ls hl => ?_)
    refine lv_aload_n hx hb dL_law_624 rfl (lv_at hl 5 rfl) ?_
    refine lw_thrown (s1 := S9) (t1 := S9) (k := 0) hC hP (by subst eS; rfl) hl.1 (Nat.le_of_ble_eq_true rfl) ⟨hcn, hsn⟩ dL_law_625 ?_
    refine lv_iload hx hb dL_law_628 (lv_at hl 1 rfl) ?_
    refine lv_icmp_eq (tgt := 635) hx hb dL_law_630 (by decide) (fun c_630 => ?_) (fun c_630 => ?_)
    rotate_left
    · exact absurd c_630 (by decide)
    refine lv_iload hx hb dL_law_635 (lv_at hl 1 rfl) ?_
    refine lv_if_ne (tgt := 652) hx hb dL_law_637 (by decide) (fun c_637 => ?_) (fun c_637 => ?_)
    · exact absurd c_637 (by decide)
    refine lv_aload_n hx hb dL_law_640 rfl (lv_at hl 4 rfl) ?_
    refine lv_iconst (v := 0) hx hb dL_law_641 (by decide) ?_
    refine lw_ldL (s1 := S9) (t1 := S9) (x := (nI (nD s9.σ)).toInt64) hC hP (by subst eS; rfl) dL_law_642 ?_
    refine lv_iload hx hb dL_law_643 (lv_at hl 0 rfl) ?_
    refine lv_i2l hx hb dL_law_645 rfl ?_
    refine m_lcmp0 hx hb rfl dL_law_646 ?_
    refine lv_if_eq (tgt := 652) hx hb dL_law_647 (by decide) (fun c_647 => ?_) (fun c_647 => ?_)
    rotate_left
    · exact absurd c_647 (by decide)
    refine lv_goto (tgt := 2890) hx hb dL_law_652 (by decide) ?_
    refine W.widen (k := cells + 1) (n := slots + 6) (by omega) (by omega) ?_
    exact kk S9 H locs ls (LI.of (LI.push hI ((inv_dukS hI.1 q6 q3).mono (by omega))) (by subst eS; rfl) (by subst eS; rfl) (by subst eS; rfl) (by subst eS; rfl) (by subst eS; rfl) (by subst eS; rfl) (by subst eS; rfl) (by subst eS; rfl) (by subst eS; rfl) (by subst eS; rfl) (by subst eS; rfl) (by subst eS; rfl) (by subst eS; rfl) (by subst eS; rfl) (by subst eS; rfl)) hP hD hS (lv_sub hl [2, 3, 4, 5, 6, 7] rfl)
  · obtain ⟨S9, eS⟩ : ∃ z : LwS, z = (LwS.mk s9.σ s9.υ s9.ς s9.hs s9.ep s9.fc s9.ml (dukF (nB s9.σ) (nD s9.σ) (xs (4 * q + 1)) (xs (4 * q + 2)) (xs (4 * q + 3))) s9.nx s9.ct s9.nb s9.n s9.LN s9.CM s9.ρ s9.x s9.x0 s9.f s9.gk s9.g1 s9.g2 s9.g3 s9.fb (encS s9.σ) s9.fA s9.fV s9.fP s9.fO s9.g s9.fo s9.fd) := ⟨_, rfl⟩
    refine lv_aload_n hx hb dL_law_575 rfl (lv_at hl 4 rfl) ?_
    refine lv_aload_n hx hb dL_law_576 rfl (lv_at hl 5 rfl) ?_
    refine lv_iload hx hb dL_law_577 (lv_at hl 0 rfl) ?_
    refine lv_iconst (v := 1) hx hb dL_law_579 (by decide) ?_
    refine lv_iadd hx hb dL_law_580 ?_
    refine m_sld (v := xs (4 * q + 1)) hx hb hC.hX hC.hbl hC.hbA hS (k := 4 * q + 1) (m_add rfl rfl) (by omega) hC.hL rfl dL_law_581 ?_
    refine lv_aload_n hx hb dL_law_582 rfl (lv_at hl 5 rfl) ?_
    refine lv_iload hx hb dL_law_583 (lv_at hl 0 rfl) ?_
    refine lv_iconst (v := 2) hx hb dL_law_585 (by decide) ?_
    refine lv_iadd hx hb dL_law_586 ?_
    refine m_sld (v := xs (4 * q + 2)) hx hb hC.hX hC.hbl hC.hbA hS (k := 4 * q + 2) (m_add rfl rfl) (by omega) hC.hL rfl dL_law_587 ?_
    refine lv_aload_n hx hb dL_law_588 rfl (lv_at hl 5 rfl) ?_
    refine lv_iload hx hb dL_law_589 (lv_at hl 0 rfl) ?_
    refine lv_iconst (v := 3) hx hb dL_law_591 (by decide) ?_
    refine lv_iadd hx hb dL_law_592 ?_
    refine m_sld (v := xs (4 * q + 3)) hx hb hC.hX hC.hbl hC.hbA hS (k := 4 * q + 3) (m_add rfl rfl) (by omega) hC.hL rfl dL_law_593 ?_
    refine lv_aload_n hx hb dL_law_594 rfl (lv_at hl 2 rfl) ?_
    refine lw_w (mc := 1) (ms := 6) (Wc := (LCh cy a s9 s9)) (Wn := (LCh cy a S9 s9)) hC (w_addDuck_1 l G cy kS vS a.aX a.na a.tr a.sn s9.hs a.hi a.sc s9.ep s9.fc a.ob s9.σ (xs (4 * q + 1)) (xs (4 * q + 2)) (xs (4 * q + 3)) a.oA s9.fo hC.hl9 hI.1.1 z1) (vx_cwSW 5 hC.S9.2.2.2.2 gL_law_L_addDuck rfl rfl rfl (by decide +kernel) ⟨Nat.le_of_ble_eq_true rfl, Nat.le_of_ble_eq_true rfl⟩) [0, 1, 24] rfl (by decide) (SameL.cons SameA.rf (SameL.cons SameA.rf (SameL.cons SameA.rf SameL.nil))) (by subst eS; rfl) hP hD hS rfl hl.1 rfl (Nat.le_of_ble_eq_true rfl) ⟨hc1, hs1⟩ dL_law_595 (fun H locs hP hD hS => ?_)
    refine lv_istore (lv' := [(6, .int 1), (5, .int (nI (4 * q))), (4, .ref a.oD), (3, .ref a.oA), (2, .ref a.am), (1, .ref a.aX), (0, .ref b)]) hx hb dL_law_598 hl (by decide) rfl (fun ls hl => ?_)
    refine lv_aload_n hx hb dL_law_600 rfl (lv_at hl 4 rfl) ?_
    refine lv_aload_n hx hb dL_law_601 rfl (lv_at hl 6 rfl) ?_
    refine lv_iload hx hb dL_law_602 (lv_at hl 1 rfl) ?_
    refine lv_iconst (v := 1) hx hb dL_law_604 (by decide) ?_
    refine lv_iadd hx hb dL_law_605 ?_
    refine m_sld (v := xs (4 * q + 1)) hx hb hC.hX hC.hbl hC.hbA hS (k := 4 * q + 1) (m_add rfl rfl) (by omega) hC.hL rfl dL_law_606 ?_
    refine lv_aload_n hx hb dL_law_607 rfl (lv_at hl 6 rfl) ?_
    refine lv_iload hx hb dL_law_608 (lv_at hl 1 rfl) ?_
    refine lv_iconst (v := 2) hx hb dL_law_610 (by decide) ?_
    refine lv_iadd hx hb dL_law_611 ?_
    refine m_sld (v := xs (4 * q + 2)) hx hb hC.hX hC.hbl hC.hbA hS (k := 4 * q + 2) (m_add rfl rfl) (by omega) hC.hL rfl dL_law_612 ?_
    refine lv_aload_n hx hb dL_law_613 rfl (lv_at hl 6 rfl) ?_
    refine lv_iload hx hb dL_law_614 (lv_at hl 1 rfl) ?_
    refine lv_iconst (v := 3) hx hb dL_law_616 (by decide) ?_
    refine lv_iadd hx hb dL_law_617 ?_
    refine m_sld (v := xs (4 * q + 3)) hx hb hC.hX hC.hbl hC.hbA hS (k := 4 * q + 3) (m_add rfl rfl) (by omega) hC.hL rfl dL_law_618 ?_
    refine lw_m (s1 := S9) (t1 := s9) (Wn := (LCh cy a S9 S9)) hC (c_X8_addDuck_no l G cy a.am a.aS a.aBf a.aAs a.aSv a.aPa a.aOu a.aTx a.aCo s9.ct s9.nb s9.LN ((s9.x0).1) s9.CM s9.hs s9.th (bI (s9.x0).2) s9.ep s9.fc s9.σ (xs (4 * q + 1)) (xs (4 * q + 2)) (xs (4 * q + 3)) s9.fB hI.1.1 (by rw [z1]; decide) (by rw [z1]; decide)) (cwV 3 hC.S9.2.2.2.2 gL_law_X8_addDuck rfl rfl rfl (by decide +kernel) ⟨Nat.le_of_ble_eq_true rfl, Nat.le_of_ble_eq_true rfl⟩) [15, 16, 17] rfl (by decide) (SameR.cons (SameR.cons (SameR.cons SameR.nil))) (by subst eS; rfl) hP hD hS rfl hl.1 rfl (Nat.le_of_ble_eq_true rfl) ⟨hc1, hs1⟩ dL_law_619 (fun H locs hP hD hS => ?_)
    refine lv_istore (lv' := [(7, .int 0), (6, .int 1), (5, .int (nI (4 * q))), (4, .ref a.oD), (3, .ref a.oA), (2, .ref a.am), (1, .ref a.aX), (0, .ref b)]) hx hb dL_law_622 hl (by decide) rfl (fun ls hl => ?_)
    refine lv_aload_n hx hb dL_law_624 rfl (lv_at hl 5 rfl) ?_
    refine lw_thrown (s1 := S9) (t1 := S9) (k := dukF (nB s9.σ) (nD s9.σ) (xs (4 * q + 1)) (xs (4 * q + 2)) (xs (4 * q + 3))) hC hP (by subst eS; rfl) hl.1 (Nat.le_of_ble_eq_true rfl) ⟨hc1, hs1⟩ dL_law_625 ?_
    refine lv_iload hx hb dL_law_628 (lv_at hl 1 rfl) ?_
    refine lv_icmp_eq (tgt := 635) hx hb dL_law_630 (by decide) (fun c_630 => ?_) (fun c_630 => ?_)
    rotate_left
    · exact absurd z1 c_630
    refine lv_iload hx hb dL_law_635 (lv_at hl 1 rfl) ?_
    refine lv_if_ne (tgt := 652) hx hb dL_law_637 (by decide) (fun c_637 => ?_) (fun c_637 => ?_)
    rotate_left
    · exact absurd c_637 (by decide)
    refine lv_goto (tgt := 2890) hx hb dL_law_652 (by decide) ?_
    exact kk S9 H locs ls (LI.of (LI.mono hI (by omega)) (by subst eS; rfl) (by subst eS; rfl) (by subst eS; rfl) (by subst eS; rfl) (by subst eS; rfl) (by subst eS; rfl) (by subst eS; rfl) (by subst eS; rfl) (by subst eS; rfl) (by subst eS; rfl) (by subst eS; rfl) (by subst eS; rfl) (by subst eS; rfl) (by subst eS; rfl) (by subst eS; rfl)) hP hD hS (lv_sub hl [2, 3, 4, 5, 6, 7] rfl)
  · obtain ⟨S9, eS⟩ : ∃ z : LwS, z = (LwS.mk s9.σ s9.υ s9.ς s9.hs s9.ep s9.fc s9.ml (dukF (nB s9.σ) (nD s9.σ) (xs (4 * q + 1)) (xs (4 * q + 2)) (xs (4 * q + 3))) s9.nx s9.ct s9.nb s9.n s9.LN s9.CM s9.ρ s9.x s9.x0 s9.f s9.gk s9.g1 s9.g2 s9.g3 s9.fb (encS s9.σ) s9.fA s9.fV s9.fP s9.fO s9.g s9.fo s9.fd) := ⟨_, rfl⟩
    refine lv_aload_n hx hb dL_law_575 rfl (lv_at hl 4 rfl) ?_
    refine lv_aload_n hx hb dL_law_576 rfl (lv_at hl 5 rfl) ?_
    refine lv_iload hx hb dL_law_577 (lv_at hl 0 rfl) ?_
    refine lv_iconst (v := 1) hx hb dL_law_579 (by decide) ?_
    refine lv_iadd hx hb dL_law_580 ?_
    refine m_sld (v := xs (4 * q + 1)) hx hb hC.hX hC.hbl hC.hbA hS (k := 4 * q + 1) (m_add rfl rfl) (by omega) hC.hL rfl dL_law_581 ?_
    refine lv_aload_n hx hb dL_law_582 rfl (lv_at hl 5 rfl) ?_
    refine lv_iload hx hb dL_law_583 (lv_at hl 0 rfl) ?_
    refine lv_iconst (v := 2) hx hb dL_law_585 (by decide) ?_
    refine lv_iadd hx hb dL_law_586 ?_
    refine m_sld (v := xs (4 * q + 2)) hx hb hC.hX hC.hbl hC.hbA hS (k := 4 * q + 2) (m_add rfl rfl) (by omega) hC.hL rfl dL_law_587 ?_
    refine lv_aload_n hx hb dL_law_588 rfl (lv_at hl 5 rfl) ?_
    refine lv_iload hx hb dL_law_589 (lv_at hl 0 rfl) ?_
    refine lv_iconst (v := 3) hx hb dL_law_591 (by decide) ?_
    refine lv_iadd hx hb dL_law_592 ?_
    refine m_sld (v := xs (4 * q + 3)) hx hb hC.hX hC.hbl hC.hbA hS (k := 4 * q + 3) (m_add rfl rfl) (by omega) hC.hL rfl dL_law_593 ?_
    refine lv_aload_n hx hb dL_law_594 rfl (lv_at hl 2 rfl) ?_
    refine lw_w (mc := 1) (ms := 6) (Wc := (LCh cy a s9 s9)) (Wn := (LCh cy a S9 s9)) hC (w_addDuck_2 l G cy kS vS a.aX a.na a.tr a.sn s9.hs a.hi a.sc s9.ep s9.fc a.ob s9.σ (xs (4 * q + 1)) (xs (4 * q + 2)) (xs (4 * q + 3)) a.oA s9.fo hC.hl9 hI.1.1 z2) (vx_cwSW 5 hC.S9.2.2.2.2 gL_law_L_addDuck rfl rfl rfl (by decide +kernel) ⟨Nat.le_of_ble_eq_true rfl, Nat.le_of_ble_eq_true rfl⟩) [0, 1, 24] rfl (by decide) (SameL.cons SameA.rf (SameL.cons SameA.rf (SameL.cons SameA.rf SameL.nil))) (by subst eS; rfl) hP hD hS rfl hl.1 rfl (Nat.le_of_ble_eq_true rfl) ⟨hc1, hs1⟩ dL_law_595 (fun H locs hP hD hS => ?_)
    refine lv_istore (lv' := [(6, .int 2), (5, .int (nI (4 * q))), (4, .ref a.oD), (3, .ref a.oA), (2, .ref a.am), (1, .ref a.aX), (0, .ref b)]) hx hb dL_law_598 hl (by decide) rfl (fun ls hl => ?_)
    refine lv_aload_n hx hb dL_law_600 rfl (lv_at hl 4 rfl) ?_
    refine lv_aload_n hx hb dL_law_601 rfl (lv_at hl 6 rfl) ?_
    refine lv_iload hx hb dL_law_602 (lv_at hl 1 rfl) ?_
    refine lv_iconst (v := 1) hx hb dL_law_604 (by decide) ?_
    refine lv_iadd hx hb dL_law_605 ?_
    refine m_sld (v := xs (4 * q + 1)) hx hb hC.hX hC.hbl hC.hbA hS (k := 4 * q + 1) (m_add rfl rfl) (by omega) hC.hL rfl dL_law_606 ?_
    refine lv_aload_n hx hb dL_law_607 rfl (lv_at hl 6 rfl) ?_
    refine lv_iload hx hb dL_law_608 (lv_at hl 1 rfl) ?_
    refine lv_iconst (v := 2) hx hb dL_law_610 (by decide) ?_
    refine lv_iadd hx hb dL_law_611 ?_
    refine m_sld (v := xs (4 * q + 2)) hx hb hC.hX hC.hbl hC.hbA hS (k := 4 * q + 2) (m_add rfl rfl) (by omega) hC.hL rfl dL_law_612 ?_
    refine lv_aload_n hx hb dL_law_613 rfl (lv_at hl 6 rfl) ?_
    refine lv_iload hx hb dL_law_614 (lv_at hl 1 rfl) ?_
    refine lv_iconst (v := 3) hx hb dL_law_616 (by decide) ?_
    refine lv_iadd hx hb dL_law_617 ?_
    refine m_sld (v := xs (4 * q + 3)) hx hb hC.hX hC.hbl hC.hbA hS (k := 4 * q + 3) (m_add rfl rfl) (by omega) hC.hL rfl dL_law_618 ?_
    refine lw_m (s1 := S9) (t1 := s9) (Wn := (LCh cy a S9 S9)) hC (c_X8_addDuck_no l G cy a.am a.aS a.aBf a.aAs a.aSv a.aPa a.aOu a.aTx a.aCo s9.ct s9.nb s9.LN ((s9.x0).1) s9.CM s9.hs s9.th (bI (s9.x0).2) s9.ep s9.fc s9.σ (xs (4 * q + 1)) (xs (4 * q + 2)) (xs (4 * q + 3)) s9.fB hI.1.1 (by rw [z2]; decide) (by rw [z2]; decide)) (cwV 3 hC.S9.2.2.2.2 gL_law_X8_addDuck rfl rfl rfl (by decide +kernel) ⟨Nat.le_of_ble_eq_true rfl, Nat.le_of_ble_eq_true rfl⟩) [15, 16, 17] rfl (by decide) (SameR.cons (SameR.cons (SameR.cons SameR.nil))) (by subst eS; rfl) hP hD hS rfl hl.1 rfl (Nat.le_of_ble_eq_true rfl) ⟨hc1, hs1⟩ dL_law_619 (fun H locs hP hD hS => ?_)
    refine lv_istore (lv' := [(7, .int 0), (6, .int 2), (5, .int (nI (4 * q))), (4, .ref a.oD), (3, .ref a.oA), (2, .ref a.am), (1, .ref a.aX), (0, .ref b)]) hx hb dL_law_622 hl (by decide) rfl (fun ls hl => ?_)
    refine lv_aload_n hx hb dL_law_624 rfl (lv_at hl 5 rfl) ?_
    refine lw_thrown (s1 := S9) (t1 := S9) (k := dukF (nB s9.σ) (nD s9.σ) (xs (4 * q + 1)) (xs (4 * q + 2)) (xs (4 * q + 3))) hC hP (by subst eS; rfl) hl.1 (Nat.le_of_ble_eq_true rfl) ⟨hc1, hs1⟩ dL_law_625 ?_
    refine lv_iload hx hb dL_law_628 (lv_at hl 1 rfl) ?_
    refine lv_icmp_eq (tgt := 635) hx hb dL_law_630 (by decide) (fun c_630 => ?_) (fun c_630 => ?_)
    rotate_left
    · exact absurd z2 c_630
    refine lv_iload hx hb dL_law_635 (lv_at hl 1 rfl) ?_
    refine lv_if_ne (tgt := 652) hx hb dL_law_637 (by decide) (fun c_637 => ?_) (fun c_637 => ?_)
    rotate_left
    · exact absurd c_637 (by decide)
    refine lv_goto (tgt := 2890) hx hb dL_law_652 (by decide) ?_
    exact kk S9 H locs ls (LI.of (LI.mono hI (by omega)) (by subst eS; rfl) (by subst eS; rfl) (by subst eS; rfl) (by subst eS; rfl) (by subst eS; rfl) (by subst eS; rfl) (by subst eS; rfl) (by subst eS; rfl) (by subst eS; rfl) (by subst eS; rfl) (by subst eS; rfl) (by subst eS; rfl) (by subst eS; rfl) (by subst eS; rfl) (by subst eS; rfl)) hP hD hS (lv_sub hl [2, 3, 4, 5, 6, 7] rfl)
  · obtain ⟨S9, eS⟩ : ∃ z : LwS, z = (LwS.mk s9.σ s9.υ s9.ς s9.hs s9.ep s9.fc s9.ml (dukF (nB s9.σ) (nD s9.σ) (xs (4 * q + 1)) (xs (4 * q + 2)) (xs (4 * q + 3))) s9.nx s9.ct s9.nb s9.n s9.LN s9.CM s9.ρ s9.x s9.x0 s9.f s9.gk s9.g1 s9.g2 s9.g3 s9.fb (encS s9.σ) s9.fA s9.fV s9.fP s9.fO s9.g s9.fo s9.fd) := ⟨_, rfl⟩
    refine lv_aload_n hx hb dL_law_575 rfl (lv_at hl 4 rfl) ?_
    refine lv_aload_n hx hb dL_law_576 rfl (lv_at hl 5 rfl) ?_
    refine lv_iload hx hb dL_law_577 (lv_at hl 0 rfl) ?_
    refine lv_iconst (v := 1) hx hb dL_law_579 (by decide) ?_
    refine lv_iadd hx hb dL_law_580 ?_
    refine m_sld (v := xs (4 * q + 1)) hx hb hC.hX hC.hbl hC.hbA hS (k := 4 * q + 1) (m_add rfl rfl) (by omega) hC.hL rfl dL_law_581 ?_
    refine lv_aload_n hx hb dL_law_582 rfl (lv_at hl 5 rfl) ?_
    refine lv_iload hx hb dL_law_583 (lv_at hl 0 rfl) ?_
    refine lv_iconst (v := 2) hx hb dL_law_585 (by decide) ?_
    refine lv_iadd hx hb dL_law_586 ?_
    refine m_sld (v := xs (4 * q + 2)) hx hb hC.hX hC.hbl hC.hbA hS (k := 4 * q + 2) (m_add rfl rfl) (by omega) hC.hL rfl dL_law_587 ?_
    refine lv_aload_n hx hb dL_law_588 rfl (lv_at hl 5 rfl) ?_
    refine lv_iload hx hb dL_law_589 (lv_at hl 0 rfl) ?_
    refine lv_iconst (v := 3) hx hb dL_law_591 (by decide) ?_
    refine lv_iadd hx hb dL_law_592 ?_
    refine m_sld (v := xs (4 * q + 3)) hx hb hC.hX hC.hbl hC.hbA hS (k := 4 * q + 3) (m_add rfl rfl) (by omega) hC.hL rfl dL_law_593 ?_
    refine lv_aload_n hx hb dL_law_594 rfl (lv_at hl 2 rfl) ?_
    refine lw_w (mc := 1) (ms := 6) (Wc := (LCh cy a s9 s9)) (Wn := (LCh cy a S9 s9)) hC (w_addDuck_3 l G cy kS vS a.aX a.na a.tr a.sn s9.hs a.hi a.sc s9.ep s9.fc a.ob s9.σ (xs (4 * q + 1)) (xs (4 * q + 2)) (xs (4 * q + 3)) a.oA s9.fo hC.hl9 hI.1.1 z3) (vx_cwSW 5 hC.S9.2.2.2.2 gL_law_L_addDuck rfl rfl rfl (by decide +kernel) ⟨Nat.le_of_ble_eq_true rfl, Nat.le_of_ble_eq_true rfl⟩) [0, 1, 24] rfl (by decide) (SameL.cons SameA.rf (SameL.cons SameA.rf (SameL.cons SameA.rf SameL.nil))) (by subst eS; rfl) hP hD hS rfl hl.1 rfl (Nat.le_of_ble_eq_true rfl) ⟨hc1, hs1⟩ dL_law_595 (fun H locs hP hD hS => ?_)
    refine lv_istore (lv' := [(6, .int 3), (5, .int (nI (4 * q))), (4, .ref a.oD), (3, .ref a.oA), (2, .ref a.am), (1, .ref a.aX), (0, .ref b)]) hx hb dL_law_598 hl (by decide) rfl (fun ls hl => ?_)
    refine lv_aload_n hx hb dL_law_600 rfl (lv_at hl 4 rfl) ?_
    refine lv_aload_n hx hb dL_law_601 rfl (lv_at hl 6 rfl) ?_
    refine lv_iload hx hb dL_law_602 (lv_at hl 1 rfl) ?_
    refine lv_iconst (v := 1) hx hb dL_law_604 (by decide) ?_
    refine lv_iadd hx hb dL_law_605 ?_
    refine m_sld (v := xs (4 * q + 1)) hx hb hC.hX hC.hbl hC.hbA hS (k := 4 * q + 1) (m_add rfl rfl) (by omega) hC.hL rfl dL_law_606 ?_
    refine lv_aload_n hx hb dL_law_607 rfl (lv_at hl 6 rfl) ?_
    refine lv_iload hx hb dL_law_608 (lv_at hl 1 rfl) ?_
    refine lv_iconst (v := 2) hx hb dL_law_610 (by decide) ?_
    refine lv_iadd hx hb dL_law_611 ?_
    refine m_sld (v := xs (4 * q + 2)) hx hb hC.hX hC.hbl hC.hbA hS (k := 4 * q + 2) (m_add rfl rfl) (by omega) hC.hL rfl dL_law_612 ?_
    refine lv_aload_n hx hb dL_law_613 rfl (lv_at hl 6 rfl) ?_
    refine lv_iload hx hb dL_law_614 (lv_at hl 1 rfl) ?_
    refine lv_iconst (v := 3) hx hb dL_law_616 (by decide) ?_
    refine lv_iadd hx hb dL_law_617 ?_
    refine m_sld (v := xs (4 * q + 3)) hx hb hC.hX hC.hbl hC.hbA hS (k := 4 * q + 3) (m_add rfl rfl) (by omega) hC.hL rfl dL_law_618 ?_
    refine lw_m (s1 := S9) (t1 := s9) (Wn := (LCh cy a S9 S9)) hC (c_X8_addDuck_no l G cy a.am a.aS a.aBf a.aAs a.aSv a.aPa a.aOu a.aTx a.aCo s9.ct s9.nb s9.LN ((s9.x0).1) s9.CM s9.hs s9.th (bI (s9.x0).2) s9.ep s9.fc s9.σ (xs (4 * q + 1)) (xs (4 * q + 2)) (xs (4 * q + 3)) s9.fB hI.1.1 (by rw [z3]; decide) (by rw [z3]; decide)) (cwV 3 hC.S9.2.2.2.2 gL_law_X8_addDuck rfl rfl rfl (by decide +kernel) ⟨Nat.le_of_ble_eq_true rfl, Nat.le_of_ble_eq_true rfl⟩) [15, 16, 17] rfl (by decide) (SameR.cons (SameR.cons (SameR.cons SameR.nil))) (by subst eS; rfl) hP hD hS rfl hl.1 rfl (Nat.le_of_ble_eq_true rfl) ⟨hc1, hs1⟩ dL_law_619 (fun H locs hP hD hS => ?_)
    refine lv_istore (lv' := [(7, .int 0), (6, .int 3), (5, .int (nI (4 * q))), (4, .ref a.oD), (3, .ref a.oA), (2, .ref a.am), (1, .ref a.aX), (0, .ref b)]) hx hb dL_law_622 hl (by decide) rfl (fun ls hl => ?_)
    refine lv_aload_n hx hb dL_law_624 rfl (lv_at hl 5 rfl) ?_
    refine lw_thrown (s1 := S9) (t1 := S9) (k := dukF (nB s9.σ) (nD s9.σ) (xs (4 * q + 1)) (xs (4 * q + 2)) (xs (4 * q + 3))) hC hP (by subst eS; rfl) hl.1 (Nat.le_of_ble_eq_true rfl) ⟨hc1, hs1⟩ dL_law_625 ?_
    refine lv_iload hx hb dL_law_628 (lv_at hl 1 rfl) ?_
    refine lv_icmp_eq (tgt := 635) hx hb dL_law_630 (by decide) (fun c_630 => ?_) (fun c_630 => ?_)
    rotate_left
    · exact absurd z3 c_630
    refine lv_iload hx hb dL_law_635 (lv_at hl 1 rfl) ?_
    refine lv_if_ne (tgt := 652) hx hb dL_law_637 (by decide) (fun c_637 => ?_) (fun c_637 => ?_)
    rotate_left
    · exact absurd c_637 (by decide)
    refine lv_goto (tgt := 2890) hx hb dL_law_652 (by decide) ?_
    exact kk S9 H locs ls (LI.of (LI.mono hI (by omega)) (by subst eS; rfl) (by subst eS; rfl) (by subst eS; rfl) (by subst eS; rfl) (by subst eS; rfl) (by subst eS; rfl) (by subst eS; rfl) (by subst eS; rfl) (by subst eS; rfl) (by subst eS; rfl) (by subst eS; rfl) (by subst eS; rfl) (by subst eS; rfl) (by subst eS; rfl) (by subst eS; rfl)) hP hD hS (lv_sub hl [2, 3, 4, 5, 6, 7] rfl)

set_option maxRecDepth 100000 in
set_option maxHeartbeats 4000000 in
theorem case_5 {p : Program} {l : Launch} {e : Env} {s : State} {m : MethodId} {below : List Frame} {meth : Method} {cq : Code} {G : va_G} {cy : Nat → ClassId} {kS vS : Nat → Nat} {A : Nat → Prop} {a : LA} {b L q : Nat} {xs : Nat → Int32} {Q : State → Prop} {n0 cells slots : Nat} (hC : LC l p s m meth cq G cy kS vS A b L xs) (hq : 4 * q + 4 ≤ L) (hn0 : n0 < 1000000) (hc1 : cells + 1 ≤ room_1.cells) (hs1 : slots + 6 ≤ room_1.slots) (kk : LGo p l e s m below meth cq G cy A a b q Q (n0 + 300) (cells + 1) (slots + 6) 2890) : LGo p l e s m below meth cq G cy A a b q Q n0 cells slots 655 := by
  intro s9 H locs ls hI hP hD hS hl
  obtain ⟨hx, hb, hml, hown, hts⟩ := id hC.S9
  have hL9 := hC.hL
  have hc0 : cells + 0 ≤ room_1.cells := Nat.le_of_succ_le hc1
  have hcn : cells ≤ room_1.cells := Nat.le_of_succ_le hc1
  have hs0 : slots + 0 ≤ room_1.slots := Nat.le_trans (Nat.le_add_right slots 6) hs1
  have hsn : slots ≤ room_1.slots := Nat.le_trans (Nat.le_add_right slots 6) hs1
  have ho := hI.1.1
  have hN0 := ho.1
  have hM0 := ho.2.1
  have hE0 := ho.2.2.1
  have hnx := hI.2.2.2.2.1
  have hct := hI.2.2.2.2.2.1
  rcases admF_v (nB s9.σ) (vB s9.σ) (hB s9.σ) (mB s9.σ) (xs (4 * q + 1)) with z0 | z1 | z3 | z5
  · obtain ⟨⟨e1, hj⟩, -⟩ := admF_0 hN0 z0
    obtain ⟨S9, eS⟩ : ∃ z : LwS, z = (LwS.mk (admS (bx (xs (4 * q + 1))) s9.σ) s9.υ s9.ς s9.hs s9.ep s9.fc s9.ml 0 ((s9.nx + 1) % 8) (kInc s9.ct) s9.nb s9.n s9.LN s9.CM (updR s9.ρ s9.nx s9.σ) s9.x s9.x0 s9.f s9.gk s9.g1 s9.g2 s9.g3 s9.fb (encS s9.σ) s9.fA s9.fV (pastP s9.ct s9.fP (encS s9.σ)) s9.fO s9.g (fun _ => (cntM (mB (admS (bx (xs (4 * q + 1))) s9.σ)) (nB (admS (bx (xs (4 * q + 1))) s9.σ))).toInt64) s9.fd) := ⟨_, rfl⟩
    refine lv_aload_n hx hb dL_law_655 rfl (lv_at hl 4 rfl) ?_
    refine lv_aload_n hx hb dL_law_656 rfl (lv_at hl 5 rfl) ?_
    refine lv_iload hx hb dL_law_657 (lv_at hl 0 rfl) ?_
    refine lv_iconst (v := 1) hx hb dL_law_659 (by decide) ?_
    refine lv_iadd hx hb dL_law_660 ?_
    refine m_sld (v := nI (bx (xs (4 * q + 1)))) hx hb hC.hX hC.hbl hC.hbA hS (k := 4 * q + 1) (m_add rfl rfl) (by omega) hC.hL e1 dL_law_661 ?_
    refine lv_aload_n hx hb dL_law_662 rfl (lv_at hl 2 rfl) ?_
    refine lw_w (mc := 0) (ms := 0) (Wc := (LCh cy a s9 s9)) (Wn := (LCh cy a S9 s9)) hC (w_join_ok l G cy kS vS a.aX a.na a.tr a.sn s9.hs a.hi a.sc s9.ep s9.fc a.ob a.hA s9.nx s9.ct a.ra s9.ρ s9.σ (bx (xs (4 * q + 1))) a.oA s9.fo hI.1.1 hnx hct hj (by rw [← e1]; exact z0)) (vx_cwSW 3 hC.S9.2.2.2.2 gL_law_L_join rfl rfl rfl (by decide +kernel) ⟨Nat.le_of_ble_eq_true rfl, Nat.le_of_ble_eq_true rfl⟩) [0, 1, 4, 5, 6, 24] rfl (by decide) (SameL.cons SameA.rf (SameL.cons SameA.st (SameL.cons SameA.one (SameL.cons SameA.rf (SameL.cons SameA.ring (SameL.cons SameA.one SameL.nil)))))) (by subst eS; rfl) hP hD hS rfl hl.1 rfl (Nat.le_of_ble_eq_true rfl) ⟨hc0, hs0⟩ dL_law_663 (fun H locs hP hD hS => ?_)
    refine lv_istore (lv' := [(6, .int 0), (5, .int (nI (4 * q))), (4, .ref a.oD), (3, .ref a.oA), (2, .ref a.am), (1, .ref a.aX), (0, .ref b)]) hx hb dL_law_666 hl (by decide) rfl (fun ls hl => ?_)
    refine lv_aload_n hx hb dL_law_668 rfl (lv_at hl 4 rfl) ?_
    refine lv_aload_n hx hb dL_law_669 rfl (lv_at hl 6 rfl) ?_
    refine lv_iload hx hb dL_law_670 (lv_at hl 1 rfl) ?_
    refine lv_iconst (v := 1) hx hb dL_law_672 (by decide) ?_
    refine lv_iadd hx hb dL_law_673 ?_
    refine m_sld (v := xs (4 * q + 1)) hx hb hC.hX hC.hbl hC.hbA hS (k := 4 * q + 1) (m_add rfl rfl) (by omega) hC.hL rfl dL_law_674 ?_
    refine lw_m (s1 := S9) (t1 := s9) (Wn := (LCh cy a S9 S9)) hC (c_X8_join_ok l G cy a.am a.aS a.aBf a.aAs a.aSv a.aPa a.aOu a.aTx a.aCo s9.ct s9.nb s9.LN ((s9.x0).1) s9.CM s9.hs s9.th (bI (s9.x0).2) s9.ep s9.fc s9.σ (xs (4 * q + 1)) s9.fB s9.fP hI.1.1 hct e1 z0) (cwV 1 hC.S9.2.2.2.2 gL_law_X8_join rfl rfl rfl (by decide +kernel) ⟨Nat.le_of_ble_eq_true rfl, Nat.le_of_ble_eq_true rfl⟩) [15, 16, 17, 20] rfl (by decide) (SameR.cons (SameR.cons (SameR.cons (SameR.cons SameR.nil)))) (by subst eS; rfl) hP hD hS rfl hl.1 rfl (Nat.le_of_ble_eq_true rfl) ⟨hcn, hsn⟩ dL_law_675 (fun H locs hP hD hS => ?_)
    refine lv_istore (lv' := [(7, .int (cntM (upd (mB s9.σ) (bx (xs (4 * q + 1))) 1) (nB s9.σ))), (6, .int 0), (5, .int (nI (4 * q))), (4, .ref a.oD), (3, .ref a.oA), (2, .ref a.am), (1, .ref a.aX), (0, .ref b)]) hx hb dL_law_678 hl (by decide) rfl (fun ls hl => ?_)
    refine lv_aload_n hx hb dL_law_680 rfl (lv_at hl 5 rfl) ?_
    refine lw_thrown (s1 := S9) (t1 := S9) (k := 0) hC hP (by subst eS; rfl) hl.1 (Nat.le_of_ble_eq_true rfl) ⟨hcn, hsn⟩ dL_law_681 ?_
    refine lv_iload hx hb dL_law_684 (lv_at hl 1 rfl) ?_
    refine lv_icmp_eq (tgt := 691) hx hb dL_law_686 (by decide) (fun c_686 => ?_) (fun c_686 => ?_)
    rotate_left
    · exact absurd c_686 (by decide)
    refine lv_iload hx hb dL_law_691 (lv_at hl 1 rfl) ?_
    refine lv_if_ne (tgt := 708) hx hb dL_law_693 (by decide) (fun c_693 => ?_) (fun c_693 => ?_)
    · exact absurd c_693 (by decide)
    refine lv_aload_n hx hb dL_law_696 rfl (lv_at hl 4 rfl) ?_
    refine lv_iconst (v := 0) hx hb dL_law_697 (by decide) ?_
    refine lw_ldL (s1 := S9) (t1 := S9) (x := (cntM (mB (admS (bx (xs (4 * q + 1))) s9.σ)) (nB (admS (bx (xs (4 * q + 1))) s9.σ))).toInt64) hC hP (by subst eS; rfl) dL_law_698 ?_
    refine lv_iload hx hb dL_law_699 (lv_at hl 0 rfl) ?_
    refine lv_i2l hx hb dL_law_701 rfl ?_
    refine m_lcmp0 hx hb rfl dL_law_702 ?_
    refine lv_if_eq (tgt := 708) hx hb dL_law_703 (by decide) (fun c_703 => ?_) (fun c_703 => ?_)
    rotate_left
    · exact absurd c_703 (by decide)
    refine lv_goto (tgt := 2890) hx hb dL_law_708 (by decide) ?_
    refine W.widen (k := cells + 1) (n := slots + 6) (by omega) (by omega) ?_
    exact kk S9 H locs ls (LI.of (LI.push hI ((inv_admS hI.1 hj).mono (by omega))) (by subst eS; rfl) (by subst eS; rfl) (by subst eS; rfl) (by subst eS; rfl) (by subst eS; rfl) (by subst eS; rfl) (by subst eS; rfl) (by subst eS; rfl) (by subst eS; rfl) (by subst eS; rfl) (by subst eS; rfl) (by subst eS; rfl) (by subst eS; rfl) (by subst eS; rfl) (by subst eS; rfl)) hP hD hS (lv_sub hl [2, 3, 4, 5, 6, 7] rfl)
  · obtain ⟨S9, eS⟩ : ∃ z : LwS, z = (LwS.mk s9.σ s9.υ s9.ς s9.hs s9.ep s9.fc s9.ml (mcJ (admF (nB s9.σ) (vB s9.σ) (hB s9.σ) (mB s9.σ) (xs (4 * q + 1)))) s9.nx s9.ct s9.nb s9.n s9.LN s9.CM s9.ρ s9.x s9.x0 s9.f s9.gk s9.g1 s9.g2 s9.g3 s9.fb (encS s9.σ) s9.fA s9.fV s9.fP s9.fO s9.g s9.fo s9.fd) := ⟨_, rfl⟩
    refine lv_aload_n hx hb dL_law_655 rfl (lv_at hl 4 rfl) ?_
    refine lv_aload_n hx hb dL_law_656 rfl (lv_at hl 5 rfl) ?_
    refine lv_iload hx hb dL_law_657 (lv_at hl 0 rfl) ?_
    refine lv_iconst (v := 1) hx hb dL_law_659 (by decide) ?_
    refine lv_iadd hx hb dL_law_660 ?_
    refine m_sld (v := xs (4 * q + 1)) hx hb hC.hX hC.hbl hC.hbA hS (k := 4 * q + 1) (m_add rfl rfl) (by omega) hC.hL rfl dL_law_661 ?_
    refine lv_aload_n hx hb dL_law_662 rfl (lv_at hl 2 rfl) ?_
    refine lw_w (mc := 1) (ms := 6) (Wc := (LCh cy a s9 s9)) (Wn := (LCh cy a S9 s9)) hC (w_join_1 l G cy kS vS a.aX a.na a.tr a.sn s9.hs a.hi a.sc s9.ep s9.fc a.ob s9.σ (xs (4 * q + 1)) a.oA s9.fo hC.hl9 hI.1.1 z1) (vx_cwSW 3 hC.S9.2.2.2.2 gL_law_L_join rfl rfl rfl (by decide +kernel) ⟨Nat.le_of_ble_eq_true rfl, Nat.le_of_ble_eq_true rfl⟩) [0, 1, 24] rfl (by decide) (SameL.cons SameA.rf (SameL.cons SameA.rf (SameL.cons SameA.rf SameL.nil))) (by subst eS; rfl) hP hD hS rfl hl.1 rfl (Nat.le_of_ble_eq_true rfl) ⟨hc1, hs1⟩ dL_law_663 (fun H locs hP hD hS => ?_)
    refine lv_istore (lv' := [(6, .int 1), (5, .int (nI (4 * q))), (4, .ref a.oD), (3, .ref a.oA), (2, .ref a.am), (1, .ref a.aX), (0, .ref b)]) hx hb dL_law_666 hl (by decide) rfl (fun ls hl => ?_)
    refine lv_aload_n hx hb dL_law_668 rfl (lv_at hl 4 rfl) ?_
    refine lv_aload_n hx hb dL_law_669 rfl (lv_at hl 6 rfl) ?_
    refine lv_iload hx hb dL_law_670 (lv_at hl 1 rfl) ?_
    refine lv_iconst (v := 1) hx hb dL_law_672 (by decide) ?_
    refine lv_iadd hx hb dL_law_673 ?_
    refine m_sld (v := xs (4 * q + 1)) hx hb hC.hX hC.hbl hC.hbA hS (k := 4 * q + 1) (m_add rfl rfl) (by omega) hC.hL rfl dL_law_674 ?_
    refine lw_m (s1 := S9) (t1 := s9) (Wn := (LCh cy a S9 S9)) hC (c_X8_join_no l G cy a.am a.aS a.aBf a.aAs a.aSv a.aPa a.aOu a.aTx a.aCo s9.ct s9.nb s9.LN ((s9.x0).1) s9.CM s9.hs s9.th (bI (s9.x0).2) s9.ep s9.fc s9.σ (xs (4 * q + 1)) s9.fB hI.1.1 (by rw [z1]; decide) (by rw [z1]; decide)) (cwV 1 hC.S9.2.2.2.2 gL_law_X8_join rfl rfl rfl (by decide +kernel) ⟨Nat.le_of_ble_eq_true rfl, Nat.le_of_ble_eq_true rfl⟩) [15, 16, 17] rfl (by decide) (SameR.cons (SameR.cons (SameR.cons SameR.nil))) (by subst eS; rfl) hP hD hS rfl hl.1 rfl (Nat.le_of_ble_eq_true rfl) ⟨hc1, hs1⟩ dL_law_675 (fun H locs hP hD hS => ?_)
    refine lv_istore (lv' := [(7, .int 0), (6, .int 1), (5, .int (nI (4 * q))), (4, .ref a.oD), (3, .ref a.oA), (2, .ref a.am), (1, .ref a.aX), (0, .ref b)]) hx hb dL_law_678 hl (by decide) rfl (fun ls hl => ?_)
    refine lv_aload_n hx hb dL_law_680 rfl (lv_at hl 5 rfl) ?_
    refine lw_thrown (s1 := S9) (t1 := S9) (k := mcJ (admF (nB s9.σ) (vB s9.σ) (hB s9.σ) (mB s9.σ) (xs (4 * q + 1)))) hC hP (by subst eS; rfl) hl.1 (Nat.le_of_ble_eq_true rfl) ⟨hc1, hs1⟩ dL_law_681 ?_
    refine lv_iload hx hb dL_law_684 (lv_at hl 1 rfl) ?_
    refine lv_icmp_eq (tgt := 691) hx hb dL_law_686 (by decide) (fun c_686 => ?_) (fun c_686 => ?_)
    rotate_left
    · exact absurd (by rw [z1]; rfl) c_686
    refine lv_iload hx hb dL_law_691 (lv_at hl 1 rfl) ?_
    refine lv_if_ne (tgt := 708) hx hb dL_law_693 (by decide) (fun c_693 => ?_) (fun c_693 => ?_)
    rotate_left
    · exact absurd c_693 (by decide)
    refine lv_goto (tgt := 2890) hx hb dL_law_708 (by decide) ?_
    exact kk S9 H locs ls (LI.of (LI.mono hI (by omega)) (by subst eS; rfl) (by subst eS; rfl) (by subst eS; rfl) (by subst eS; rfl) (by subst eS; rfl) (by subst eS; rfl) (by subst eS; rfl) (by subst eS; rfl) (by subst eS; rfl) (by subst eS; rfl) (by subst eS; rfl) (by subst eS; rfl) (by subst eS; rfl) (by subst eS; rfl) (by subst eS; rfl)) hP hD hS (lv_sub hl [2, 3, 4, 5, 6, 7] rfl)
  · obtain ⟨S9, eS⟩ : ∃ z : LwS, z = (LwS.mk s9.σ s9.υ s9.ς s9.hs s9.ep s9.fc s9.ml (mcJ (admF (nB s9.σ) (vB s9.σ) (hB s9.σ) (mB s9.σ) (xs (4 * q + 1)))) s9.nx s9.ct s9.nb s9.n s9.LN s9.CM s9.ρ s9.x s9.x0 s9.f s9.gk s9.g1 s9.g2 s9.g3 s9.fb (encS s9.σ) s9.fA s9.fV s9.fP s9.fO s9.g s9.fo s9.fd) := ⟨_, rfl⟩
    refine lv_aload_n hx hb dL_law_655 rfl (lv_at hl 4 rfl) ?_
    refine lv_aload_n hx hb dL_law_656 rfl (lv_at hl 5 rfl) ?_
    refine lv_iload hx hb dL_law_657 (lv_at hl 0 rfl) ?_
    refine lv_iconst (v := 1) hx hb dL_law_659 (by decide) ?_
    refine lv_iadd hx hb dL_law_660 ?_
    refine m_sld (v := xs (4 * q + 1)) hx hb hC.hX hC.hbl hC.hbA hS (k := 4 * q + 1) (m_add rfl rfl) (by omega) hC.hL rfl dL_law_661 ?_
    refine lv_aload_n hx hb dL_law_662 rfl (lv_at hl 2 rfl) ?_
    refine lw_w (mc := 1) (ms := 6) (Wc := (LCh cy a s9 s9)) (Wn := (LCh cy a S9 s9)) hC (w_join_3 l G cy kS vS a.aX a.na a.tr a.sn s9.hs a.hi a.sc s9.ep s9.fc a.ob s9.σ (xs (4 * q + 1)) a.oA s9.fo hC.hl9 hI.1.1 z3) (vx_cwSW 3 hC.S9.2.2.2.2 gL_law_L_join rfl rfl rfl (by decide +kernel) ⟨Nat.le_of_ble_eq_true rfl, Nat.le_of_ble_eq_true rfl⟩) [0, 1, 24] rfl (by decide) (SameL.cons SameA.rf (SameL.cons SameA.rf (SameL.cons SameA.rf SameL.nil))) (by subst eS; rfl) hP hD hS rfl hl.1 rfl (Nat.le_of_ble_eq_true rfl) ⟨hc1, hs1⟩ dL_law_663 (fun H locs hP hD hS => ?_)
    refine lv_istore (lv' := [(6, .int 2), (5, .int (nI (4 * q))), (4, .ref a.oD), (3, .ref a.oA), (2, .ref a.am), (1, .ref a.aX), (0, .ref b)]) hx hb dL_law_666 hl (by decide) rfl (fun ls hl => ?_)
    refine lv_aload_n hx hb dL_law_668 rfl (lv_at hl 4 rfl) ?_
    refine lv_aload_n hx hb dL_law_669 rfl (lv_at hl 6 rfl) ?_
    refine lv_iload hx hb dL_law_670 (lv_at hl 1 rfl) ?_
    refine lv_iconst (v := 1) hx hb dL_law_672 (by decide) ?_
    refine lv_iadd hx hb dL_law_673 ?_
    refine m_sld (v := xs (4 * q + 1)) hx hb hC.hX hC.hbl hC.hbA hS (k := 4 * q + 1) (m_add rfl rfl) (by omega) hC.hL rfl dL_law_674 ?_
    refine lw_m (s1 := S9) (t1 := s9) (Wn := (LCh cy a S9 S9)) hC (c_X8_join_no l G cy a.am a.aS a.aBf a.aAs a.aSv a.aPa a.aOu a.aTx a.aCo s9.ct s9.nb s9.LN ((s9.x0).1) s9.CM s9.hs s9.th (bI (s9.x0).2) s9.ep s9.fc s9.σ (xs (4 * q + 1)) s9.fB hI.1.1 (by rw [z3]; decide) (by rw [z3]; decide)) (cwV 1 hC.S9.2.2.2.2 gL_law_X8_join rfl rfl rfl (by decide +kernel) ⟨Nat.le_of_ble_eq_true rfl, Nat.le_of_ble_eq_true rfl⟩) [15, 16, 17] rfl (by decide) (SameR.cons (SameR.cons (SameR.cons SameR.nil))) (by subst eS; rfl) hP hD hS rfl hl.1 rfl (Nat.le_of_ble_eq_true rfl) ⟨hc1, hs1⟩ dL_law_675 (fun H locs hP hD hS => ?_)
    refine lv_istore (lv' := [(7, .int 0), (6, .int 2), (5, .int (nI (4 * q))), (4, .ref a.oD), (3, .ref a.oA), (2, .ref a.am), (1, .ref a.aX), (0, .ref b)]) hx hb dL_law_678 hl (by decide) rfl (fun ls hl => ?_)
    refine lv_aload_n hx hb dL_law_680 rfl (lv_at hl 5 rfl) ?_
    refine lw_thrown (s1 := S9) (t1 := S9) (k := mcJ (admF (nB s9.σ) (vB s9.σ) (hB s9.σ) (mB s9.σ) (xs (4 * q + 1)))) hC hP (by subst eS; rfl) hl.1 (Nat.le_of_ble_eq_true rfl) ⟨hc1, hs1⟩ dL_law_681 ?_
    refine lv_iload hx hb dL_law_684 (lv_at hl 1 rfl) ?_
    refine lv_icmp_eq (tgt := 691) hx hb dL_law_686 (by decide) (fun c_686 => ?_) (fun c_686 => ?_)
    rotate_left
    · exact absurd (by rw [z3]; rfl) c_686
    refine lv_iload hx hb dL_law_691 (lv_at hl 1 rfl) ?_
    refine lv_if_ne (tgt := 708) hx hb dL_law_693 (by decide) (fun c_693 => ?_) (fun c_693 => ?_)
    rotate_left
    · exact absurd c_693 (by decide)
    refine lv_goto (tgt := 2890) hx hb dL_law_708 (by decide) ?_
    exact kk S9 H locs ls (LI.of (LI.mono hI (by omega)) (by subst eS; rfl) (by subst eS; rfl) (by subst eS; rfl) (by subst eS; rfl) (by subst eS; rfl) (by subst eS; rfl) (by subst eS; rfl) (by subst eS; rfl) (by subst eS; rfl) (by subst eS; rfl) (by subst eS; rfl) (by subst eS; rfl) (by subst eS; rfl) (by subst eS; rfl) (by subst eS; rfl)) hP hD hS (lv_sub hl [2, 3, 4, 5, 6, 7] rfl)
  · obtain ⟨S9, eS⟩ : ∃ z : LwS, z = (LwS.mk s9.σ s9.υ s9.ς s9.hs s9.ep s9.fc s9.ml (mcJ (admF (nB s9.σ) (vB s9.σ) (hB s9.σ) (mB s9.σ) (xs (4 * q + 1)))) s9.nx s9.ct s9.nb s9.n s9.LN s9.CM s9.ρ s9.x s9.x0 s9.f s9.gk s9.g1 s9.g2 s9.g3 s9.fb (encS s9.σ) s9.fA s9.fV s9.fP s9.fO s9.g s9.fo s9.fd) := ⟨_, rfl⟩
    refine lv_aload_n hx hb dL_law_655 rfl (lv_at hl 4 rfl) ?_
    refine lv_aload_n hx hb dL_law_656 rfl (lv_at hl 5 rfl) ?_
    refine lv_iload hx hb dL_law_657 (lv_at hl 0 rfl) ?_
    refine lv_iconst (v := 1) hx hb dL_law_659 (by decide) ?_
    refine lv_iadd hx hb dL_law_660 ?_
    refine m_sld (v := xs (4 * q + 1)) hx hb hC.hX hC.hbl hC.hbA hS (k := 4 * q + 1) (m_add rfl rfl) (by omega) hC.hL rfl dL_law_661 ?_
    refine lv_aload_n hx hb dL_law_662 rfl (lv_at hl 2 rfl) ?_
    refine lw_w (mc := 1) (ms := 6) (Wc := (LCh cy a s9 s9)) (Wn := (LCh cy a S9 s9)) hC (w_join_5 l G cy kS vS a.aX a.na a.tr a.sn s9.hs a.hi a.sc s9.ep s9.fc a.ob s9.σ (xs (4 * q + 1)) a.oA s9.fo hC.hl9 hI.1.1 z5) (vx_cwSW 3 hC.S9.2.2.2.2 gL_law_L_join rfl rfl rfl (by decide +kernel) ⟨Nat.le_of_ble_eq_true rfl, Nat.le_of_ble_eq_true rfl⟩) [0, 1, 24] rfl (by decide) (SameL.cons SameA.rf (SameL.cons SameA.rf (SameL.cons SameA.rf SameL.nil))) (by subst eS; rfl) hP hD hS rfl hl.1 rfl (Nat.le_of_ble_eq_true rfl) ⟨hc1, hs1⟩ dL_law_663 (fun H locs hP hD hS => ?_)
    refine lv_istore (lv' := [(6, .int 3), (5, .int (nI (4 * q))), (4, .ref a.oD), (3, .ref a.oA), (2, .ref a.am), (1, .ref a.aX), (0, .ref b)]) hx hb dL_law_666 hl (by decide) rfl (fun ls hl => ?_)
    refine lv_aload_n hx hb dL_law_668 rfl (lv_at hl 4 rfl) ?_
    refine lv_aload_n hx hb dL_law_669 rfl (lv_at hl 6 rfl) ?_
    refine lv_iload hx hb dL_law_670 (lv_at hl 1 rfl) ?_
    refine lv_iconst (v := 1) hx hb dL_law_672 (by decide) ?_
    refine lv_iadd hx hb dL_law_673 ?_
    refine m_sld (v := xs (4 * q + 1)) hx hb hC.hX hC.hbl hC.hbA hS (k := 4 * q + 1) (m_add rfl rfl) (by omega) hC.hL rfl dL_law_674 ?_
    refine lw_m (s1 := S9) (t1 := s9) (Wn := (LCh cy a S9 S9)) hC (c_X8_join_no l G cy a.am a.aS a.aBf a.aAs a.aSv a.aPa a.aOu a.aTx a.aCo s9.ct s9.nb s9.LN ((s9.x0).1) s9.CM s9.hs s9.th (bI (s9.x0).2) s9.ep s9.fc s9.σ (xs (4 * q + 1)) s9.fB hI.1.1 (by rw [z5]; decide) (by rw [z5]; decide)) (cwV 1 hC.S9.2.2.2.2 gL_law_X8_join rfl rfl rfl (by decide +kernel) ⟨Nat.le_of_ble_eq_true rfl, Nat.le_of_ble_eq_true rfl⟩) [15, 16, 17] rfl (by decide) (SameR.cons (SameR.cons (SameR.cons SameR.nil))) (by subst eS; rfl) hP hD hS rfl hl.1 rfl (Nat.le_of_ble_eq_true rfl) ⟨hc1, hs1⟩ dL_law_675 (fun H locs hP hD hS => ?_)
    refine lv_istore (lv' := [(7, .int 0), (6, .int 3), (5, .int (nI (4 * q))), (4, .ref a.oD), (3, .ref a.oA), (2, .ref a.am), (1, .ref a.aX), (0, .ref b)]) hx hb dL_law_678 hl (by decide) rfl (fun ls hl => ?_)
    refine lv_aload_n hx hb dL_law_680 rfl (lv_at hl 5 rfl) ?_
    refine lw_thrown (s1 := S9) (t1 := S9) (k := mcJ (admF (nB s9.σ) (vB s9.σ) (hB s9.σ) (mB s9.σ) (xs (4 * q + 1)))) hC hP (by subst eS; rfl) hl.1 (Nat.le_of_ble_eq_true rfl) ⟨hc1, hs1⟩ dL_law_681 ?_
    refine lv_iload hx hb dL_law_684 (lv_at hl 1 rfl) ?_
    refine lv_icmp_eq (tgt := 691) hx hb dL_law_686 (by decide) (fun c_686 => ?_) (fun c_686 => ?_)
    rotate_left
    · exact absurd (by rw [z5]; rfl) c_686
    refine lv_iload hx hb dL_law_691 (lv_at hl 1 rfl) ?_
    refine lv_if_ne (tgt := 708) hx hb dL_law_693 (by decide) (fun c_693 => ?_) (fun c_693 => ?_)
    rotate_left
    · exact absurd c_693 (by decide)
    refine lv_goto (tgt := 2890) hx hb dL_law_708 (by decide) ?_
    exact kk S9 H locs ls (LI.of (LI.mono hI (by omega)) (by subst eS; rfl) (by subst eS; rfl) (by subst eS; rfl) (by subst eS; rfl) (by subst eS; rfl) (by subst eS; rfl) (by subst eS; rfl) (by subst eS; rfl) (by subst eS; rfl) (by subst eS; rfl) (by subst eS; rfl) (by subst eS; rfl) (by subst eS; rfl) (by subst eS; rfl) (by subst eS; rfl)) hP hD hS (lv_sub hl [2, 3, 4, 5, 6, 7] rfl)

set_option maxRecDepth 100000 in
set_option maxHeartbeats 4000000 in
theorem case_6 {p : Program} {l : Launch} {e : Env} {s : State} {m : MethodId} {below : List Frame} {meth : Method} {cq : Code} {G : va_G} {cy : Nat → ClassId} {kS vS : Nat → Nat} {A : Nat → Prop} {a : LA} {b L q : Nat} {xs : Nat → Int32} {Q : State → Prop} {n0 cells slots : Nat} (hC : LC l p s m meth cq G cy kS vS A b L xs) (hq : 4 * q + 4 ≤ L) (hn0 : n0 < 1000000) (hc1 : cells + 1 ≤ room_1.cells) (hs1 : slots + 6 ≤ room_1.slots) (kk : LGo p l e s m below meth cq G cy A a b q Q (n0 + 300) (cells + 1) (slots + 6) 2890) : LGo p l e s m below meth cq G cy A a b q Q n0 cells slots 711 := by
  intro s9 H locs ls hI hP hD hS hl
  obtain ⟨hx, hb, hml, hown, hts⟩ := id hC.S9
  have hL9 := hC.hL
  have hc0 : cells + 0 ≤ room_1.cells := Nat.le_of_succ_le hc1
  have hcn : cells ≤ room_1.cells := Nat.le_of_succ_le hc1
  have hs0 : slots + 0 ≤ room_1.slots := Nat.le_trans (Nat.le_add_right slots 6) hs1
  have hsn : slots ≤ room_1.slots := Nat.le_trans (Nat.le_add_right slots 6) hs1
  have ho := hI.1.1
  have hN0 := ho.1
  have hM0 := ho.2.1
  have hE0 := ho.2.2.1
  have hnx := hI.2.2.2.2.1
  have hct := hI.2.2.2.2.2.1
  rcases disF_v (nB s9.σ) (mB s9.σ) (xs (4 * q + 1)) with z0 | z1 | z3
  · obtain ⟨⟨e1, hj⟩, -⟩ := disF_0 hN0 z0
    obtain ⟨S9, eS⟩ : ∃ z : LwS, z = (LwS.mk (disS (bx (xs (4 * q + 1))) s9.σ) s9.υ s9.ς s9.hs s9.ep s9.fc s9.ml 0 ((s9.nx + 1) % 8) (kInc s9.ct) s9.nb s9.n s9.LN s9.CM (updR s9.ρ s9.nx s9.σ) s9.x s9.x0 s9.f s9.gk s9.g1 s9.g2 s9.g3 s9.fb (encS s9.σ) s9.fA s9.fV (pastP s9.ct s9.fP (encS s9.σ)) s9.fO s9.g (fun _ => (cntM (mB (disS (bx (xs (4 * q + 1))) s9.σ)) (nB (disS (bx (xs (4 * q + 1))) s9.σ))).toInt64) s9.fd) := ⟨_, rfl⟩
    refine lv_aload_n hx hb dL_law_711 rfl (lv_at hl 4 rfl) ?_
    refine lv_aload_n hx hb dL_law_712 rfl (lv_at hl 5 rfl) ?_
    refine lv_iload hx hb dL_law_713 (lv_at hl 0 rfl) ?_
    refine lv_iconst (v := 1) hx hb dL_law_715 (by decide) ?_
    refine lv_iadd hx hb dL_law_716 ?_
    refine m_sld (v := nI (bx (xs (4 * q + 1)))) hx hb hC.hX hC.hbl hC.hbA hS (k := 4 * q + 1) (m_add rfl rfl) (by omega) hC.hL e1 dL_law_717 ?_
    refine lv_aload_n hx hb dL_law_718 rfl (lv_at hl 2 rfl) ?_
    refine lw_w (mc := 0) (ms := 0) (Wc := (LCh cy a s9 s9)) (Wn := (LCh cy a S9 s9)) hC (w_leave_ok l G cy kS vS a.aX a.na a.tr a.sn s9.hs a.hi a.sc s9.ep s9.fc a.ob a.hA s9.nx s9.ct a.ra s9.ρ s9.σ (bx (xs (4 * q + 1))) a.oA s9.fo hI.1.1 hnx hct hj (by rw [← e1]; exact z0)) (vx_cwSW 3 hC.S9.2.2.2.2 gL_law_L_leave rfl rfl rfl (by decide +kernel) ⟨Nat.le_of_ble_eq_true rfl, Nat.le_of_ble_eq_true rfl⟩) [0, 1, 4, 5, 6, 24] rfl (by decide) (SameL.cons SameA.rf (SameL.cons SameA.st (SameL.cons SameA.one (SameL.cons SameA.rf (SameL.cons SameA.ring (SameL.cons SameA.one SameL.nil)))))) (by subst eS; rfl) hP hD hS rfl hl.1 rfl (Nat.le_of_ble_eq_true rfl) ⟨hc0, hs0⟩ dL_law_719 (fun H locs hP hD hS => ?_)
    refine lv_istore (lv' := [(6, .int 0), (5, .int (nI (4 * q))), (4, .ref a.oD), (3, .ref a.oA), (2, .ref a.am), (1, .ref a.aX), (0, .ref b)]) hx hb dL_law_722 hl (by decide) rfl (fun ls hl => ?_)
    refine lv_aload_n hx hb dL_law_724 rfl (lv_at hl 4 rfl) ?_
    refine lv_aload_n hx hb dL_law_725 rfl (lv_at hl 6 rfl) ?_
    refine lv_iload hx hb dL_law_726 (lv_at hl 1 rfl) ?_
    refine lv_iconst (v := 1) hx hb dL_law_728 (by decide) ?_
    refine lv_iadd hx hb dL_law_729 ?_
    refine m_sld (v := xs (4 * q + 1)) hx hb hC.hX hC.hbl hC.hbA hS (k := 4 * q + 1) (m_add rfl rfl) (by omega) hC.hL rfl dL_law_730 ?_
    refine lw_m (s1 := S9) (t1 := s9) (Wn := (LCh cy a S9 S9)) hC (c_X8_leave_ok l G cy a.am a.aS a.aBf a.aAs a.aSv a.aPa a.aOu a.aTx a.aCo s9.ct s9.nb s9.LN ((s9.x0).1) s9.CM s9.hs s9.th (bI (s9.x0).2) s9.ep s9.fc s9.σ (xs (4 * q + 1)) s9.fB s9.fP hI.1.1 hct e1 z0) (cwV 1 hC.S9.2.2.2.2 gL_law_X8_leave rfl rfl rfl (by decide +kernel) ⟨Nat.le_of_ble_eq_true rfl, Nat.le_of_ble_eq_true rfl⟩) [15, 16, 17, 20] rfl (by decide) (SameR.cons (SameR.cons (SameR.cons (SameR.cons SameR.nil)))) (by subst eS; rfl) hP hD hS rfl hl.1 rfl (Nat.le_of_ble_eq_true rfl) ⟨hcn, hsn⟩ dL_law_731 (fun H locs hP hD hS => ?_)
    refine lv_istore (lv' := [(7, .int (cntM (upd (mB s9.σ) (bx (xs (4 * q + 1))) 0) (nB s9.σ))), (6, .int 0), (5, .int (nI (4 * q))), (4, .ref a.oD), (3, .ref a.oA), (2, .ref a.am), (1, .ref a.aX), (0, .ref b)]) hx hb dL_law_734 hl (by decide) rfl (fun ls hl => ?_)
    refine lv_aload_n hx hb dL_law_736 rfl (lv_at hl 5 rfl) ?_
    refine lw_thrown (s1 := S9) (t1 := S9) (k := 0) hC hP (by subst eS; rfl) hl.1 (Nat.le_of_ble_eq_true rfl) ⟨hcn, hsn⟩ dL_law_737 ?_
    refine lv_iload hx hb dL_law_740 (lv_at hl 1 rfl) ?_
    refine lv_icmp_eq (tgt := 747) hx hb dL_law_742 (by decide) (fun c_742 => ?_) (fun c_742 => ?_)
    rotate_left
    · exact absurd c_742 (by decide)
    refine lv_iload hx hb dL_law_747 (lv_at hl 1 rfl) ?_
    refine lv_if_ne (tgt := 764) hx hb dL_law_749 (by decide) (fun c_749 => ?_) (fun c_749 => ?_)
    · exact absurd c_749 (by decide)
    refine lv_aload_n hx hb dL_law_752 rfl (lv_at hl 4 rfl) ?_
    refine lv_iconst (v := 0) hx hb dL_law_753 (by decide) ?_
    refine lw_ldL (s1 := S9) (t1 := S9) (x := (cntM (mB (disS (bx (xs (4 * q + 1))) s9.σ)) (nB (disS (bx (xs (4 * q + 1))) s9.σ))).toInt64) hC hP (by subst eS; rfl) dL_law_754 ?_
    refine lv_iload hx hb dL_law_755 (lv_at hl 0 rfl) ?_
    refine lv_i2l hx hb dL_law_757 rfl ?_
    refine m_lcmp0 hx hb rfl dL_law_758 ?_
    refine lv_if_eq (tgt := 764) hx hb dL_law_759 (by decide) (fun c_759 => ?_) (fun c_759 => ?_)
    rotate_left
    · exact absurd c_759 (by decide)
    refine lv_goto (tgt := 2890) hx hb dL_law_764 (by decide) ?_
    refine W.widen (k := cells + 1) (n := slots + 6) (by omega) (by omega) ?_
    exact kk S9 H locs ls (LI.of (LI.push hI ((inv_disS hI.1 _).mono (by omega))) (by subst eS; rfl) (by subst eS; rfl) (by subst eS; rfl) (by subst eS; rfl) (by subst eS; rfl) (by subst eS; rfl) (by subst eS; rfl) (by subst eS; rfl) (by subst eS; rfl) (by subst eS; rfl) (by subst eS; rfl) (by subst eS; rfl) (by subst eS; rfl) (by subst eS; rfl) (by subst eS; rfl)) hP hD hS (lv_sub hl [2, 3, 4, 5, 6, 7] rfl)
  · obtain ⟨S9, eS⟩ : ∃ z : LwS, z = (LwS.mk s9.σ s9.υ s9.ς s9.hs s9.ep s9.fc s9.ml (mcL (disF (nB s9.σ) (mB s9.σ) (xs (4 * q + 1)))) s9.nx s9.ct s9.nb s9.n s9.LN s9.CM s9.ρ s9.x s9.x0 s9.f s9.gk s9.g1 s9.g2 s9.g3 s9.fb (encS s9.σ) s9.fA s9.fV s9.fP s9.fO s9.g s9.fo s9.fd) := ⟨_, rfl⟩
    refine lv_aload_n hx hb dL_law_711 rfl (lv_at hl 4 rfl) ?_
    refine lv_aload_n hx hb dL_law_712 rfl (lv_at hl 5 rfl) ?_
    refine lv_iload hx hb dL_law_713 (lv_at hl 0 rfl) ?_
    refine lv_iconst (v := 1) hx hb dL_law_715 (by decide) ?_
    refine lv_iadd hx hb dL_law_716 ?_
    refine m_sld (v := xs (4 * q + 1)) hx hb hC.hX hC.hbl hC.hbA hS (k := 4 * q + 1) (m_add rfl rfl) (by omega) hC.hL rfl dL_law_717 ?_
    refine lv_aload_n hx hb dL_law_718 rfl (lv_at hl 2 rfl) ?_
    refine lw_w (mc := 1) (ms := 6) (Wc := (LCh cy a s9 s9)) (Wn := (LCh cy a S9 s9)) hC (w_leave_1 l G cy kS vS a.aX a.na a.tr a.sn s9.hs a.hi a.sc s9.ep s9.fc a.ob s9.σ (xs (4 * q + 1)) a.oA s9.fo hC.hl9 hI.1.1 z1) (vx_cwSW 3 hC.S9.2.2.2.2 gL_law_L_leave rfl rfl rfl (by decide +kernel) ⟨Nat.le_of_ble_eq_true rfl, Nat.le_of_ble_eq_true rfl⟩) [0, 1, 24] rfl (by decide) (SameL.cons SameA.rf (SameL.cons SameA.rf (SameL.cons SameA.rf SameL.nil))) (by subst eS; rfl) hP hD hS rfl hl.1 rfl (Nat.le_of_ble_eq_true rfl) ⟨hc1, hs1⟩ dL_law_719 (fun H locs hP hD hS => ?_)
    refine lv_istore (lv' := [(6, .int 1), (5, .int (nI (4 * q))), (4, .ref a.oD), (3, .ref a.oA), (2, .ref a.am), (1, .ref a.aX), (0, .ref b)]) hx hb dL_law_722 hl (by decide) rfl (fun ls hl => ?_)
    refine lv_aload_n hx hb dL_law_724 rfl (lv_at hl 4 rfl) ?_
    refine lv_aload_n hx hb dL_law_725 rfl (lv_at hl 6 rfl) ?_
    refine lv_iload hx hb dL_law_726 (lv_at hl 1 rfl) ?_
    refine lv_iconst (v := 1) hx hb dL_law_728 (by decide) ?_
    refine lv_iadd hx hb dL_law_729 ?_
    refine m_sld (v := xs (4 * q + 1)) hx hb hC.hX hC.hbl hC.hbA hS (k := 4 * q + 1) (m_add rfl rfl) (by omega) hC.hL rfl dL_law_730 ?_
    refine lw_m (s1 := S9) (t1 := s9) (Wn := (LCh cy a S9 S9)) hC (c_X8_leave_no l G cy a.am a.aS a.aBf a.aAs a.aSv a.aPa a.aOu a.aTx a.aCo s9.ct s9.nb s9.LN ((s9.x0).1) s9.CM s9.hs s9.th (bI (s9.x0).2) s9.ep s9.fc s9.σ (xs (4 * q + 1)) s9.fB hI.1.1 (by rw [z1]; decide) (by rw [z1]; decide)) (cwV 1 hC.S9.2.2.2.2 gL_law_X8_leave rfl rfl rfl (by decide +kernel) ⟨Nat.le_of_ble_eq_true rfl, Nat.le_of_ble_eq_true rfl⟩) [15, 16, 17] rfl (by decide) (SameR.cons (SameR.cons (SameR.cons SameR.nil))) (by subst eS; rfl) hP hD hS rfl hl.1 rfl (Nat.le_of_ble_eq_true rfl) ⟨hc1, hs1⟩ dL_law_731 (fun H locs hP hD hS => ?_)
    refine lv_istore (lv' := [(7, .int 0), (6, .int 1), (5, .int (nI (4 * q))), (4, .ref a.oD), (3, .ref a.oA), (2, .ref a.am), (1, .ref a.aX), (0, .ref b)]) hx hb dL_law_734 hl (by decide) rfl (fun ls hl => ?_)
    refine lv_aload_n hx hb dL_law_736 rfl (lv_at hl 5 rfl) ?_
    refine lw_thrown (s1 := S9) (t1 := S9) (k := mcL (disF (nB s9.σ) (mB s9.σ) (xs (4 * q + 1)))) hC hP (by subst eS; rfl) hl.1 (Nat.le_of_ble_eq_true rfl) ⟨hc1, hs1⟩ dL_law_737 ?_
    refine lv_iload hx hb dL_law_740 (lv_at hl 1 rfl) ?_
    refine lv_icmp_eq (tgt := 747) hx hb dL_law_742 (by decide) (fun c_742 => ?_) (fun c_742 => ?_)
    rotate_left
    · exact absurd (by rw [z1]; rfl) c_742
    refine lv_iload hx hb dL_law_747 (lv_at hl 1 rfl) ?_
    refine lv_if_ne (tgt := 764) hx hb dL_law_749 (by decide) (fun c_749 => ?_) (fun c_749 => ?_)
    rotate_left
    · exact absurd c_749 (by decide)
    refine lv_goto (tgt := 2890) hx hb dL_law_764 (by decide) ?_
    exact kk S9 H locs ls (LI.of (LI.mono hI (by omega)) (by subst eS; rfl) (by subst eS; rfl) (by subst eS; rfl) (by subst eS; rfl) (by subst eS; rfl) (by subst eS; rfl) (by subst eS; rfl) (by subst eS; rfl) (by subst eS; rfl) (by subst eS; rfl) (by subst eS; rfl) (by subst eS; rfl) (by subst eS; rfl) (by subst eS; rfl) (by subst eS; rfl)) hP hD hS (lv_sub hl [2, 3, 4, 5, 6, 7] rfl)
  · obtain ⟨S9, eS⟩ : ∃ z : LwS, z = (LwS.mk s9.σ s9.υ s9.ς s9.hs s9.ep s9.fc s9.ml (mcL (disF (nB s9.σ) (mB s9.σ) (xs (4 * q + 1)))) s9.nx s9.ct s9.nb s9.n s9.LN s9.CM s9.ρ s9.x s9.x0 s9.f s9.gk s9.g1 s9.g2 s9.g3 s9.fb (encS s9.σ) s9.fA s9.fV s9.fP s9.fO s9.g s9.fo s9.fd) := ⟨_, rfl⟩
    refine lv_aload_n hx hb dL_law_711 rfl (lv_at hl 4 rfl) ?_
    refine lv_aload_n hx hb dL_law_712 rfl (lv_at hl 5 rfl) ?_
    refine lv_iload hx hb dL_law_713 (lv_at hl 0 rfl) ?_
    refine lv_iconst (v := 1) hx hb dL_law_715 (by decide) ?_
    refine lv_iadd hx hb dL_law_716 ?_
    refine m_sld (v := xs (4 * q + 1)) hx hb hC.hX hC.hbl hC.hbA hS (k := 4 * q + 1) (m_add rfl rfl) (by omega) hC.hL rfl dL_law_717 ?_
    refine lv_aload_n hx hb dL_law_718 rfl (lv_at hl 2 rfl) ?_
    refine lw_w (mc := 1) (ms := 6) (Wc := (LCh cy a s9 s9)) (Wn := (LCh cy a S9 s9)) hC (w_leave_3 l G cy kS vS a.aX a.na a.tr a.sn s9.hs a.hi a.sc s9.ep s9.fc a.ob s9.σ (xs (4 * q + 1)) a.oA s9.fo hC.hl9 hI.1.1 z3) (vx_cwSW 3 hC.S9.2.2.2.2 gL_law_L_leave rfl rfl rfl (by decide +kernel) ⟨Nat.le_of_ble_eq_true rfl, Nat.le_of_ble_eq_true rfl⟩) [0, 1, 24] rfl (by decide) (SameL.cons SameA.rf (SameL.cons SameA.rf (SameL.cons SameA.rf SameL.nil))) (by subst eS; rfl) hP hD hS rfl hl.1 rfl (Nat.le_of_ble_eq_true rfl) ⟨hc1, hs1⟩ dL_law_719 (fun H locs hP hD hS => ?_)
    refine lv_istore (lv' := [(6, .int 2), (5, .int (nI (4 * q))), (4, .ref a.oD), (3, .ref a.oA), (2, .ref a.am), (1, .ref a.aX), (0, .ref b)]) hx hb dL_law_722 hl (by decide) rfl (fun ls hl => ?_)
    refine lv_aload_n hx hb dL_law_724 rfl (lv_at hl 4 rfl) ?_
    refine lv_aload_n hx hb dL_law_725 rfl (lv_at hl 6 rfl) ?_
    refine lv_iload hx hb dL_law_726 (lv_at hl 1 rfl) ?_
    refine lv_iconst (v := 1) hx hb dL_law_728 (by decide) ?_
    refine lv_iadd hx hb dL_law_729 ?_
    refine m_sld (v := xs (4 * q + 1)) hx hb hC.hX hC.hbl hC.hbA hS (k := 4 * q + 1) (m_add rfl rfl) (by omega) hC.hL rfl dL_law_730 ?_
    refine lw_m (s1 := S9) (t1 := s9) (Wn := (LCh cy a S9 S9)) hC (c_X8_leave_no l G cy a.am a.aS a.aBf a.aAs a.aSv a.aPa a.aOu a.aTx a.aCo s9.ct s9.nb s9.LN ((s9.x0).1) s9.CM s9.hs s9.th (bI (s9.x0).2) s9.ep s9.fc s9.σ (xs (4 * q + 1)) s9.fB hI.1.1 (by rw [z3]; decide) (by rw [z3]; decide)) (cwV 1 hC.S9.2.2.2.2 gL_law_X8_leave rfl rfl rfl (by decide +kernel) ⟨Nat.le_of_ble_eq_true rfl, Nat.le_of_ble_eq_true rfl⟩) [15, 16, 17] rfl (by decide) (SameR.cons (SameR.cons (SameR.cons SameR.nil))) (by subst eS; rfl) hP hD hS rfl hl.1 rfl (Nat.le_of_ble_eq_true rfl) ⟨hc1, hs1⟩ dL_law_731 (fun H locs hP hD hS => ?_)
    refine lv_istore (lv' := [(7, .int 0), (6, .int 2), (5, .int (nI (4 * q))), (4, .ref a.oD), (3, .ref a.oA), (2, .ref a.am), (1, .ref a.aX), (0, .ref b)]) hx hb dL_law_734 hl (by decide) rfl (fun ls hl => ?_)
    refine lv_aload_n hx hb dL_law_736 rfl (lv_at hl 5 rfl) ?_
    refine lw_thrown (s1 := S9) (t1 := S9) (k := mcL (disF (nB s9.σ) (mB s9.σ) (xs (4 * q + 1)))) hC hP (by subst eS; rfl) hl.1 (Nat.le_of_ble_eq_true rfl) ⟨hc1, hs1⟩ dL_law_737 ?_
    refine lv_iload hx hb dL_law_740 (lv_at hl 1 rfl) ?_
    refine lv_icmp_eq (tgt := 747) hx hb dL_law_742 (by decide) (fun c_742 => ?_) (fun c_742 => ?_)
    rotate_left
    · exact absurd (by rw [z3]; rfl) c_742
    refine lv_iload hx hb dL_law_747 (lv_at hl 1 rfl) ?_
    refine lv_if_ne (tgt := 764) hx hb dL_law_749 (by decide) (fun c_749 => ?_) (fun c_749 => ?_)
    rotate_left
    · exact absurd c_749 (by decide)
    refine lv_goto (tgt := 2890) hx hb dL_law_764 (by decide) ?_
    exact kk S9 H locs ls (LI.of (LI.mono hI (by omega)) (by subst eS; rfl) (by subst eS; rfl) (by subst eS; rfl) (by subst eS; rfl) (by subst eS; rfl) (by subst eS; rfl) (by subst eS; rfl) (by subst eS; rfl) (by subst eS; rfl) (by subst eS; rfl) (by subst eS; rfl) (by subst eS; rfl) (by subst eS; rfl) (by subst eS; rfl) (by subst eS; rfl)) hP hD hS (lv_sub hl [2, 3, 4, 5, 6, 7] rfl)

set_option maxRecDepth 100000 in
set_option maxHeartbeats 4000000 in
theorem case_7 {p : Program} {l : Launch} {e : Env} {s : State} {m : MethodId} {below : List Frame} {meth : Method} {cq : Code} {G : va_G} {cy : Nat → ClassId} {kS vS : Nat → Nat} {A : Nat → Prop} {a : LA} {b L q : Nat} {xs : Nat → Int32} {Q : State → Prop} {n0 cells slots : Nat} (hC : LC l p s m meth cq G cy kS vS A b L xs) (hq : 4 * q + 4 ≤ L) (hn0 : n0 < 1000000) (hc1 : cells + 1 ≤ room_1.cells) (hs1 : slots + 6 ≤ room_1.slots) (kk : LGo p l e s m below meth cq G cy A a b q Q (n0 + 300) (cells + 1) (slots + 6) 2890) : LGo p l e s m below meth cq G cy A a b q Q n0 cells slots 767 := by
  intro s9 H locs ls hI hP hD hS hl
  obtain ⟨hx, hb, hml, hown, hts⟩ := id hC.S9
  have hL9 := hC.hL
  have hc0 : cells + 0 ≤ room_1.cells := Nat.le_of_succ_le hc1
  have hcn : cells ≤ room_1.cells := Nat.le_of_succ_le hc1
  have hs0 : slots + 0 ≤ room_1.slots := Nat.le_trans (Nat.le_add_right slots 6) hs1
  have hsn : slots ≤ room_1.slots := Nat.le_trans (Nat.le_add_right slots 6) hs1
  have ho := hI.1.1
  have hN0 := ho.1
  have hM0 := ho.2.1
  have hE0 := ho.2.2.1
  have hnx := hI.2.2.2.2.1
  have hct := hI.2.2.2.2.2.1
  rcases tikF_v (xs (4 * q + 1)) with z0 | z2
  · obtain ⟨e1, h1, h20⟩ := tikF_0 z0
    have z3 : tikF (nI (bx (xs (4 * q + 1)))) = 0 := by rw [← e1]; exact z0
    obtain ⟨S9, eS⟩ : ∃ z : LwS, z = (LwS.mk (tickN s9.σ (bx (xs (4 * q + 1)))) s9.υ s9.ς s9.hs s9.ep s9.fc s9.ml 0 ((s9.nx + 1) % 8) (kInc s9.ct) s9.nb s9.n s9.LN s9.CM (updR s9.ρ s9.nx s9.σ) s9.x s9.x0 s9.f s9.gk s9.g1 s9.g2 s9.g3 s9.fb (encS s9.σ) s9.fA s9.fV (pastP s9.ct s9.fP (encS s9.σ)) s9.fO s9.g (fun _ => (dT (tickN s9.σ (bx (xs (4 * q + 1)))) - dT s9.σ).toInt64) s9.fd) := ⟨_, rfl⟩
    refine lv_aload_n hx hb dL_law_767 rfl (lv_at hl 4 rfl) ?_
    refine lv_aload_n hx hb dL_law_768 rfl (lv_at hl 5 rfl) ?_
    refine lv_iload hx hb dL_law_769 (lv_at hl 0 rfl) ?_
    refine lv_iconst (v := 1) hx hb dL_law_771 (by decide) ?_
    refine lv_iadd hx hb dL_law_772 ?_
    refine m_sld (v := nI (bx (xs (4 * q + 1)))) hx hb hC.hX hC.hbl hC.hbA hS (k := 4 * q + 1) (m_add rfl rfl) (by omega) hC.hL e1 dL_law_773 ?_
    refine lv_aload_n hx hb dL_law_774 rfl (lv_at hl 2 rfl) ?_
    refine lw_w (mc := 0) (ms := 0) (Wc := (LCh cy a s9 s9)) (Wn := (LCh cy a S9 s9)) hC (w_advance_ok l G cy kS vS a.aX a.na a.tr a.sn s9.hs a.hi a.sc s9.ep s9.fc a.ob a.hA s9.nx s9.ct a.ra s9.ρ s9.σ (bx (xs (4 * q + 1))) a.oA s9.fo hI.1.1 hnx hct (by omega) z3) (vx_cwSW 3 hC.S9.2.2.2.2 gL_law_L_advance rfl rfl rfl (by decide +kernel) ⟨Nat.le_of_ble_eq_true rfl, Nat.le_of_ble_eq_true rfl⟩) [0, 1, 4, 5, 6, 24] rfl (by decide) (SameL.cons SameA.rf (SameL.cons SameA.st (SameL.cons SameA.one (SameL.cons SameA.rf (SameL.cons SameA.ring (SameL.cons SameA.one SameL.nil)))))) (by subst eS; rfl) hP hD hS rfl hl.1 rfl (Nat.le_of_ble_eq_true rfl) ⟨hc0, hs0⟩ dL_law_775 (fun H locs hP hD hS => ?_)
    refine lv_istore (lv' := [(6, .int 0), (5, .int (nI (4 * q))), (4, .ref a.oD), (3, .ref a.oA), (2, .ref a.am), (1, .ref a.aX), (0, .ref b)]) hx hb dL_law_778 hl (by decide) rfl (fun ls hl => ?_)
    refine lv_aload_n hx hb dL_law_780 rfl (lv_at hl 4 rfl) ?_
    refine lv_aload_n hx hb dL_law_781 rfl (lv_at hl 6 rfl) ?_
    refine lv_iload hx hb dL_law_782 (lv_at hl 1 rfl) ?_
    refine lv_iconst (v := 1) hx hb dL_law_784 (by decide) ?_
    refine lv_iadd hx hb dL_law_785 ?_
    refine m_sld (v := nI (bx (xs (4 * q + 1)))) hx hb hC.hX hC.hbl hC.hbA hS (k := 4 * q + 1) (m_add rfl rfl) (by omega) hC.hL e1 dL_law_786 ?_
    refine lw_m (s1 := S9) (t1 := s9) (Wn := (LCh cy a S9 S9)) hC (c_X8_advance_ok l G cy a.am a.aS a.aBf a.aAs a.aSv a.aPa a.aOu a.aTx a.aCo s9.ct s9.nb s9.LN ((s9.x0).1) s9.CM s9.hs s9.th (bI (s9.x0).2) s9.ep s9.fc s9.σ (bx (xs (4 * q + 1))) s9.fB s9.fP hI.1.1 hct (by omega) (hI.1.mids (by omega)) z3) (cwV 1 hC.S9.2.2.2.2 gL_law_X8_advance rfl rfl rfl (by decide +kernel) ⟨Nat.le_of_ble_eq_true rfl, Nat.le_of_ble_eq_true rfl⟩) [15, 16, 17, 20] rfl (by decide) (SameR.cons (SameR.cons (SameR.cons (SameR.cons SameR.nil)))) (by subst eS; rfl) hP hD hS rfl hl.1 rfl (Nat.le_of_ble_eq_true rfl) ⟨hcn, hsn⟩ dL_law_787 (fun H locs hP hD hS => ?_)
    refine lv_istore (lv' := [(7, .int (dT (tickN s9.σ (bx (xs (4 * q + 1)))) - dT s9.σ)), (6, .int 0), (5, .int (nI (4 * q))), (4, .ref a.oD), (3, .ref a.oA), (2, .ref a.am), (1, .ref a.aX), (0, .ref b)]) hx hb dL_law_790 hl (by decide) rfl (fun ls hl => ?_)
    refine lv_aload_n hx hb dL_law_792 rfl (lv_at hl 5 rfl) ?_
    refine lw_thrown (s1 := S9) (t1 := S9) (k := 0) hC hP (by subst eS; rfl) hl.1 (Nat.le_of_ble_eq_true rfl) ⟨hcn, hsn⟩ dL_law_793 ?_
    refine lv_iload hx hb dL_law_796 (lv_at hl 1 rfl) ?_
    refine lv_icmp_eq (tgt := 803) hx hb dL_law_798 (by decide) (fun c_798 => ?_) (fun c_798 => ?_)
    rotate_left
    · exact absurd c_798 (by decide)
    refine lv_iload hx hb dL_law_803 (lv_at hl 1 rfl) ?_
    refine lv_if_ne (tgt := 820) hx hb dL_law_805 (by decide) (fun c_805 => ?_) (fun c_805 => ?_)
    · exact absurd c_805 (by decide)
    refine lv_aload_n hx hb dL_law_808 rfl (lv_at hl 4 rfl) ?_
    refine lv_iconst (v := 0) hx hb dL_law_809 (by decide) ?_
    refine lw_ldL (s1 := S9) (t1 := S9) (x := (dT (tickN s9.σ (bx (xs (4 * q + 1)))) - dT s9.σ).toInt64) hC hP (by subst eS; rfl) dL_law_810 ?_
    refine lv_iload hx hb dL_law_811 (lv_at hl 0 rfl) ?_
    refine lv_i2l hx hb dL_law_813 rfl ?_
    refine m_lcmp0 hx hb rfl dL_law_814 ?_
    refine lv_if_eq (tgt := 820) hx hb dL_law_815 (by decide) (fun c_815 => ?_) (fun c_815 => ?_)
    rotate_left
    · exact absurd c_815 (by decide)
    refine lv_goto (tgt := 2890) hx hb dL_law_820 (by decide) ?_
    refine W.widen (k := cells + 1) (n := slots + 6) (by omega) (by omega) ?_
    exact kk S9 H locs ls (LI.of (LI.push hI ((inv_tickN hI.1 (bx (xs (4 * q + 1))) (by omega)).mono (by omega))) (by subst eS; rfl) (by subst eS; rfl) (by subst eS; rfl) (by subst eS; rfl) (by subst eS; rfl) (by subst eS; rfl) (by subst eS; rfl) (by subst eS; rfl) (by subst eS; rfl) (by subst eS; rfl) (by subst eS; rfl) (by subst eS; rfl) (by subst eS; rfl) (by subst eS; rfl) (by subst eS; rfl)) hP hD hS (lv_sub hl [2, 3, 4, 5, 6, 7] rfl)
  · obtain ⟨S9, eS⟩ : ∃ z : LwS, z = (LwS.mk s9.σ s9.υ s9.ς s9.hs s9.ep s9.fc s9.ml 1 s9.nx s9.ct s9.nb s9.n s9.LN s9.CM s9.ρ s9.x s9.x0 s9.f s9.gk s9.g1 s9.g2 s9.g3 s9.fb (encS s9.σ) s9.fA s9.fV s9.fP s9.fO s9.g s9.fo s9.fd) := ⟨_, rfl⟩
    refine lv_aload_n hx hb dL_law_767 rfl (lv_at hl 4 rfl) ?_
    refine lv_aload_n hx hb dL_law_768 rfl (lv_at hl 5 rfl) ?_
    refine lv_iload hx hb dL_law_769 (lv_at hl 0 rfl) ?_
    refine lv_iconst (v := 1) hx hb dL_law_771 (by decide) ?_
    refine lv_iadd hx hb dL_law_772 ?_
    refine m_sld (v := xs (4 * q + 1)) hx hb hC.hX hC.hbl hC.hbA hS (k := 4 * q + 1) (m_add rfl rfl) (by omega) hC.hL rfl dL_law_773 ?_
    refine lv_aload_n hx hb dL_law_774 rfl (lv_at hl 2 rfl) ?_
    refine lw_w (mc := 1) (ms := 6) (Wc := (LCh cy a s9 s9)) (Wn := (LCh cy a S9 s9)) hC (w_advance_2 l G cy kS vS a.aX a.na a.tr a.sn s9.hs a.hi a.sc s9.ep s9.fc a.ob s9.σ (xs (4 * q + 1)) a.oA s9.fo hC.hl9 hI.1.1 z2) (vx_cwSW 3 hC.S9.2.2.2.2 gL_law_L_advance rfl rfl rfl (by decide +kernel) ⟨Nat.le_of_ble_eq_true rfl, Nat.le_of_ble_eq_true rfl⟩) [0, 1, 24] rfl (by decide) (SameL.cons SameA.rf (SameL.cons SameA.rf (SameL.cons SameA.rf SameL.nil))) (by subst eS; rfl) hP hD hS rfl hl.1 rfl (Nat.le_of_ble_eq_true rfl) ⟨hc1, hs1⟩ dL_law_775 (fun H locs hP hD hS => ?_)
    refine lv_istore (lv' := [(6, .int 1), (5, .int (nI (4 * q))), (4, .ref a.oD), (3, .ref a.oA), (2, .ref a.am), (1, .ref a.aX), (0, .ref b)]) hx hb dL_law_778 hl (by decide) rfl (fun ls hl => ?_)
    refine lv_aload_n hx hb dL_law_780 rfl (lv_at hl 4 rfl) ?_
    refine lv_aload_n hx hb dL_law_781 rfl (lv_at hl 6 rfl) ?_
    refine lv_iload hx hb dL_law_782 (lv_at hl 1 rfl) ?_
    refine lv_iconst (v := 1) hx hb dL_law_784 (by decide) ?_
    refine lv_iadd hx hb dL_law_785 ?_
    refine m_sld (v := xs (4 * q + 1)) hx hb hC.hX hC.hbl hC.hbA hS (k := 4 * q + 1) (m_add rfl rfl) (by omega) hC.hL rfl dL_law_786 ?_
    refine lw_m (s1 := S9) (t1 := s9) (Wn := (LCh cy a S9 S9)) hC (c_X8_advance_no l G cy a.am a.aS a.aBf a.aAs a.aSv a.aPa a.aOu a.aTx a.aCo s9.ct s9.nb s9.LN ((s9.x0).1) s9.CM s9.hs s9.th (bI (s9.x0).2) s9.ep s9.fc s9.σ (xs (4 * q + 1)) s9.fB hI.1.1 (by rw [z2]; decide)) (cwV 1 hC.S9.2.2.2.2 gL_law_X8_advance rfl rfl rfl (by decide +kernel) ⟨Nat.le_of_ble_eq_true rfl, Nat.le_of_ble_eq_true rfl⟩) [15, 16, 17] rfl (by decide) (SameR.cons (SameR.cons (SameR.cons SameR.nil))) (by subst eS; rfl) hP hD hS rfl hl.1 rfl (Nat.le_of_ble_eq_true rfl) ⟨hc1, hs1⟩ dL_law_787 (fun H locs hP hD hS => ?_)
    refine lv_istore (lv' := [(7, .int 0), (6, .int 1), (5, .int (nI (4 * q))), (4, .ref a.oD), (3, .ref a.oA), (2, .ref a.am), (1, .ref a.aX), (0, .ref b)]) hx hb dL_law_790 hl (by decide) rfl (fun ls hl => ?_)
    refine lv_aload_n hx hb dL_law_792 rfl (lv_at hl 5 rfl) ?_
    refine lw_thrown (s1 := S9) (t1 := S9) (k := 1) hC hP (by subst eS; rfl) hl.1 (Nat.le_of_ble_eq_true rfl) ⟨hc1, hs1⟩ dL_law_793 ?_
    refine lv_iload hx hb dL_law_796 (lv_at hl 1 rfl) ?_
    refine lv_icmp_eq (tgt := 803) hx hb dL_law_798 (by decide) (fun c_798 => ?_) (fun c_798 => ?_)
    rotate_left
    · exact absurd c_798 (by decide)
    refine lv_iload hx hb dL_law_803 (lv_at hl 1 rfl) ?_
    refine lv_if_ne (tgt := 820) hx hb dL_law_805 (by decide) (fun c_805 => ?_) (fun c_805 => ?_)
    rotate_left
    · exact absurd c_805 (by decide)
    refine lv_goto (tgt := 2890) hx hb dL_law_820 (by decide) ?_
    exact kk S9 H locs ls (LI.of (LI.mono hI (by omega)) (by subst eS; rfl) (by subst eS; rfl) (by subst eS; rfl) (by subst eS; rfl) (by subst eS; rfl) (by subst eS; rfl) (by subst eS; rfl) (by subst eS; rfl) (by subst eS; rfl) (by subst eS; rfl) (by subst eS; rfl) (by subst eS; rfl) (by subst eS; rfl) (by subst eS; rfl) (by subst eS; rfl)) hP hD hS (lv_sub hl [2, 3, 4, 5, 6, 7] rfl)

set_option maxRecDepth 100000 in
set_option maxHeartbeats 4000000 in
theorem case_8 {p : Program} {l : Launch} {e : Env} {s : State} {m : MethodId} {below : List Frame} {meth : Method} {cq : Code} {G : va_G} {cy : Nat → ClassId} {kS vS : Nat → Nat} {A : Nat → Prop} {a : LA} {b L q : Nat} {xs : Nat → Int32} {Q : State → Prop} {n0 cells slots : Nat} (hC : LC l p s m meth cq G cy kS vS A b L xs) (hq : 4 * q + 4 ≤ L) (hn0 : n0 < 1000000) (hc1 : cells + 1 ≤ room_1.cells) (hs1 : slots + 6 ≤ room_1.slots) (kk : LGo p l e s m below meth cq G cy A a b q Q (n0 + 300) (cells + 1) (slots + 6) 2890) : LGo p l e s m below meth cq G cy A a b q Q n0 cells slots 823 := by
  intro s9 H locs ls hI hP hD hS hl
  obtain ⟨hx, hb, hml, hown, hts⟩ := id hC.S9
  have hL9 := hC.hL
  have hc0 : cells + 0 ≤ room_1.cells := Nat.le_of_succ_le hc1
  have hcn : cells ≤ room_1.cells := Nat.le_of_succ_le hc1
  have hs0 : slots + 0 ≤ room_1.slots := Nat.le_trans (Nat.le_add_right slots 6) hs1
  have hsn : slots ≤ room_1.slots := Nat.le_trans (Nat.le_add_right slots 6) hs1
  have ho := hI.1.1
  have hN0 := ho.1
  have hM0 := ho.2.1
  have hE0 := ho.2.2.1
  have hnx := hI.2.2.2.2.1
  have hct := hI.2.2.2.2.2.1
  obtain ⟨S9, eS⟩ : ∃ z : LwS, z = (LwS.mk s9.σ s9.υ s9.ς s9.hs s9.ep s9.fc s9.ml 0 s9.nx s9.ct s9.nb s9.n s9.LN s9.CM s9.ρ s9.x s9.x0 s9.f s9.gk s9.g1 s9.g2 s9.g3 s9.fb s9.fB s9.fA s9.fV s9.fP s9.fO s9.g s9.fo s9.fd) := ⟨_, rfl⟩
  refine lv_aload_n hx hb dL_law_823 rfl (lv_at hl 4 rfl) ?_
  refine c_roVi hC.S9 (c_X7_bathCount l G cy a.aX a.na a.tr a.sn s9.hs a.hi a.sc s9.ep s9.fc a.ob s9.σ hI.1.1) (cwV 0 hC.S9.2.2.2.2 gL_law_X7_bathCount rfl rfl rfl (by decide +kernel) ⟨Nat.le_of_ble_eq_true rfl, Nat.le_of_ble_eq_true rfl⟩) PB.blind (va_recv hC.hK.1 hP (ci := 11) (q0 := offs (LCh cy a s9 s9) 0 + 0) rfl ((fl_at (Wc := (LCh cy a s9 s9)) (j := 0) (i := 0) (c := [(a.aX, .inr (11, [.ref (a.na 0), .ref (a.tr 0), .ref (a.sn 0), .int s9.hs, .ref a.hi, .ref a.sc, .int s9.ep, .int s9.fc, .ref a.ob]))]) rfl (Nat.le_of_ble_eq_true rfl)).trans rfl)) (PB.at hC.hK (PpartC (Wc := (LCh cy a s9 s9)) (cs := [[(a.aX, .inr (11, [.ref (a.na 0), .ref (a.tr 0), .ref (a.sn 0), .int s9.hs, .ref a.hi, .ref a.sc, .int s9.ep, .int s9.fc, .ref a.ob]))], sWd cy a.na s9.σ]) hP [0, 1] rfl)) rfl hl.1 rfl (Nat.le_of_ble_eq_true rfl) ⟨hcn, hsn⟩ dL_law_824 ?_
  refine lv_aload_n hx hb dL_law_827 rfl (lv_at hl 3 rfl) ?_
  refine lw_m (s1 := s9) (t1 := s9) (Wn := (LCh cy a s9 S9)) hC (c_X8_bathCount l G cy a.am a.aS a.aBf a.aAs a.aSv a.aPa a.aOu a.aTx a.aCo s9.ct s9.nb s9.LN ((s9.x0).1) s9.CM s9.hs s9.th (bI (s9.x0).2) s9.ep s9.fc s9.σ hI.1.1) (cwV 0 hC.S9.2.2.2.2 gL_law_X8_bathCount rfl rfl rfl (by decide +kernel) ⟨Nat.le_of_ble_eq_true rfl, Nat.le_of_ble_eq_true rfl⟩) [15, 16] rfl (by decide) (SameR.cons (SameR.cons SameR.nil)) (by subst eS; rfl) hP hD hS rfl hl.1 rfl (Nat.le_of_ble_eq_true rfl) ⟨hcn, hsn⟩ dL_law_828 (fun H locs hP hD hS => ?_)
  refine lv_icmp_eq (tgt := 2890) hx hb dL_law_831 (by decide) (fun c_831 => ?_) (fun c_831 => ?_)
  rotate_left
  · exact absurd rfl c_831
  have hP : va_P G vwCl (fl (LCh cy a S9 S9)) H := by rw [LCh.left (s := s9) (by subst eS; rfl) (by subst eS; rfl) (by subst eS; rfl) (by subst eS; rfl) (by subst eS; rfl) (by subst eS; rfl) (by subst eS; rfl) (by subst eS; rfl) (by subst eS; rfl) (by subst eS; rfl) (by subst eS; rfl) (by subst eS; rfl) (by subst eS; rfl) (by subst eS; rfl) (by subst eS; rfl) (by subst eS; rfl) (by subst eS; rfl) (by subst eS; rfl) (by subst eS; rfl) (by subst eS; rfl) (by subst eS; rfl) (by subst eS; rfl)]; exact hP
  have hD : va_D A (fl (LCh cy a S9 S9)) := by rw [LCh.left (s := s9) (by subst eS; rfl) (by subst eS; rfl) (by subst eS; rfl) (by subst eS; rfl) (by subst eS; rfl) (by subst eS; rfl) (by subst eS; rfl) (by subst eS; rfl) (by subst eS; rfl) (by subst eS; rfl) (by subst eS; rfl) (by subst eS; rfl) (by subst eS; rfl) (by subst eS; rfl) (by subst eS; rfl) (by subst eS; rfl) (by subst eS; rfl) (by subst eS; rfl) (by subst eS; rfl) (by subst eS; rfl) (by subst eS; rfl) (by subst eS; rfl)]; exact hD
  refine W.widen (k := cells + 1) (n := slots + 6) (by omega) (by omega) ?_
  exact kk S9 H locs ls (LI.of (LI.mono hI (by omega)) (by subst eS; rfl) (by subst eS; rfl) (by subst eS; rfl) (by subst eS; rfl) (by subst eS; rfl) (by subst eS; rfl) (by subst eS; rfl) (by subst eS; rfl) (by subst eS; rfl) (by subst eS; rfl) (by subst eS; rfl) (by subst eS; rfl) (by subst eS; rfl) (by subst eS; rfl) (by subst eS; rfl)) hP hD hS (lv_sub hl [0, 1, 2, 3, 4, 5] rfl)

set_option maxRecDepth 100000 in
set_option maxHeartbeats 4000000 in
theorem case_9 {p : Program} {l : Launch} {e : Env} {s : State} {m : MethodId} {below : List Frame} {meth : Method} {cq : Code} {G : va_G} {cy : Nat → ClassId} {kS vS : Nat → Nat} {A : Nat → Prop} {a : LA} {b L q : Nat} {xs : Nat → Int32} {Q : State → Prop} {n0 cells slots : Nat} (hC : LC l p s m meth cq G cy kS vS A b L xs) (hq : 4 * q + 4 ≤ L) (hn0 : n0 < 1000000) (hc1 : cells + 1 ≤ room_1.cells) (hs1 : slots + 6 ≤ room_1.slots) (kk : LGo p l e s m below meth cq G cy A a b q Q (n0 + 300) (cells + 1) (slots + 6) 2890) : LGo p l e s m below meth cq G cy A a b q Q n0 cells slots 836 := by
  intro s9 H locs ls hI hP hD hS hl
  obtain ⟨hx, hb, hml, hown, hts⟩ := id hC.S9
  have hL9 := hC.hL
  have hc0 : cells + 0 ≤ room_1.cells := Nat.le_of_succ_le hc1
  have hcn : cells ≤ room_1.cells := Nat.le_of_succ_le hc1
  have hs0 : slots + 0 ≤ room_1.slots := Nat.le_trans (Nat.le_add_right slots 6) hs1
  have hsn : slots ≤ room_1.slots := Nat.le_trans (Nat.le_add_right slots 6) hs1
  have ho := hI.1.1
  have hN0 := ho.1
  have hM0 := ho.2.1
  have hE0 := ho.2.2.1
  have hnx := hI.2.2.2.2.1
  have hct := hI.2.2.2.2.2.1
  by_cases hF : inI (xs (4 * q + 1)) (nI (nB s9.σ)) = true
  · obtain ⟨j, hj, e1⟩ := ix_of (by omega) hF
    obtain ⟨S9, eS⟩ : ∃ z : LwS, z = (LwS.mk s9.σ s9.υ s9.ς s9.hs s9.ep s9.fc s9.ml 0 s9.nx s9.ct s9.nb s9.n s9.LN s9.CM s9.ρ s9.x s9.x0 s9.f s9.gk s9.g1 s9.g2 s9.g3 s9.fb s9.fB s9.fA s9.fV s9.fP s9.fO s9.g (fun _ => (vB s9.σ j).toInt64) s9.fd) := ⟨_, rfl⟩
    refine lv_aload_n hx hb dL_law_836 rfl (lv_at hl 4 rfl) ?_
    refine lv_aload_n hx hb dL_law_837 rfl (lv_at hl 5 rfl) ?_
    refine lv_iload hx hb dL_law_838 (lv_at hl 0 rfl) ?_
    refine lv_iconst (v := 1) hx hb dL_law_840 (by decide) ?_
    refine lv_iadd hx hb dL_law_841 ?_
    refine m_sld (v := nI j) hx hb hC.hX hC.hbl hC.hbA hS (k := 4 * q + 1) (m_add rfl rfl) (by omega) hC.hL e1 dL_law_842 ?_
    refine lv_aload_n hx hb dL_law_843 rfl (lv_at hl 2 rfl) ?_
    refine lw_w (mc := 0) (ms := 0) (Wc := (LCh cy a s9 s9)) (Wn := (LCh cy a S9 s9)) hC (w_volume_ok l G cy kS vS a.aX a.na a.tr a.sn s9.hs a.hi a.sc s9.ep s9.fc a.ob s9.σ j a.oA s9.fo hI.1.1 hj) (vx_cwSW 3 hC.S9.2.2.2.2 gL_law_L_volume rfl rfl rfl (by decide +kernel) ⟨Nat.le_of_ble_eq_true rfl, Nat.le_of_ble_eq_true rfl⟩) [0, 1, 24] rfl (by decide) (SameL.cons SameA.rf (SameL.cons SameA.rf (SameL.cons SameA.one SameL.nil))) (by subst eS; rfl) hP hD hS rfl hl.1 rfl (Nat.le_of_ble_eq_true rfl) ⟨hc0, hs0⟩ dL_law_844 (fun H locs hP hD hS => ?_)
    refine lv_istore (lv' := [(6, .int 0), (5, .int (nI (4 * q))), (4, .ref a.oD), (3, .ref a.oA), (2, .ref a.am), (1, .ref a.aX), (0, .ref b)]) hx hb dL_law_847 hl (by decide) rfl (fun ls hl => ?_)
    refine lv_aload_n hx hb dL_law_849 rfl (lv_at hl 4 rfl) ?_
    refine lv_aload_n hx hb dL_law_850 rfl (lv_at hl 6 rfl) ?_
    refine lv_iload hx hb dL_law_851 (lv_at hl 1 rfl) ?_
    refine lv_iconst (v := 1) hx hb dL_law_853 (by decide) ?_
    refine lv_iadd hx hb dL_law_854 ?_
    refine m_sld (v := nI j) hx hb hC.hX hC.hbl hC.hbA hS (k := 4 * q + 1) (m_add rfl rfl) (by omega) hC.hL e1 dL_law_855 ?_
    refine lw_m (s1 := S9) (t1 := s9) (Wn := (LCh cy a S9 S9)) hC (c_X8_volume_ok l G cy a.am a.aS a.aBf a.aAs a.aSv a.aPa a.aOu a.aTx a.aCo s9.ct s9.nb s9.LN ((s9.x0).1) s9.CM s9.hs s9.th (bI (s9.x0).2) s9.ep s9.fc s9.σ j hI.1.1 hj) (cwV 1 hC.S9.2.2.2.2 gL_law_X8_volume rfl rfl rfl (by decide +kernel) ⟨Nat.le_of_ble_eq_true rfl, Nat.le_of_ble_eq_true rfl⟩) [15, 16] rfl (by decide) (SameR.cons (SameR.cons SameR.nil)) (by subst eS; rfl) hP hD hS rfl hl.1 rfl (Nat.le_of_ble_eq_true rfl) ⟨hcn, hsn⟩ dL_law_856 (fun H locs hP hD hS => ?_)
    refine lv_istore (lv' := [(7, .int (vB s9.σ j)), (6, .int 0), (5, .int (nI (4 * q))), (4, .ref a.oD), (3, .ref a.oA), (2, .ref a.am), (1, .ref a.aX), (0, .ref b)]) hx hb dL_law_859 hl (by decide) rfl (fun ls hl => ?_)
    refine lv_aload_n hx hb dL_law_861 rfl (lv_at hl 5 rfl) ?_
    refine lw_thrown (s1 := S9) (t1 := S9) (k := 0) hC hP (by subst eS; rfl) hl.1 (Nat.le_of_ble_eq_true rfl) ⟨hcn, hsn⟩ dL_law_862 ?_
    refine lv_iload hx hb dL_law_865 (lv_at hl 1 rfl) ?_
    refine lv_icmp_eq (tgt := 872) hx hb dL_law_867 (by decide) (fun c_867 => ?_) (fun c_867 => ?_)
    rotate_left
    · exact absurd c_867 (by decide)
    refine lv_iload hx hb dL_law_872 (lv_at hl 1 rfl) ?_
    refine lv_if_ne (tgt := 889) hx hb dL_law_874 (by decide) (fun c_874 => ?_) (fun c_874 => ?_)
    · exact absurd c_874 (by decide)
    refine lv_aload_n hx hb dL_law_877 rfl (lv_at hl 4 rfl) ?_
    refine lv_iconst (v := 0) hx hb dL_law_878 (by decide) ?_
    refine lw_ldL (s1 := S9) (t1 := S9) (x := (vB s9.σ j).toInt64) hC hP (by subst eS; rfl) dL_law_879 ?_
    refine lv_iload hx hb dL_law_880 (lv_at hl 0 rfl) ?_
    refine lv_i2l hx hb dL_law_882 rfl ?_
    refine m_lcmp0 hx hb rfl dL_law_883 ?_
    refine lv_if_eq (tgt := 889) hx hb dL_law_884 (by decide) (fun c_884 => ?_) (fun c_884 => ?_)
    rotate_left
    · exact absurd c_884 (by decide)
    refine lv_goto (tgt := 2890) hx hb dL_law_889 (by decide) ?_
    refine W.widen (k := cells + 1) (n := slots + 6) (by omega) (by omega) ?_
    exact kk S9 H locs ls (LI.of (LI.mono hI (by omega)) (by subst eS; rfl) (by subst eS; rfl) (by subst eS; rfl) (by subst eS; rfl) (by subst eS; rfl) (by subst eS; rfl) (by subst eS; rfl) (by subst eS; rfl) (by subst eS; rfl) (by subst eS; rfl) (by subst eS; rfl) (by subst eS; rfl) (by subst eS; rfl) (by subst eS; rfl) (by subst eS; rfl)) hP hD hS (lv_sub hl [2, 3, 4, 5, 6, 7] rfl)
  · obtain ⟨S9, eS⟩ : ∃ z : LwS, z = (LwS.mk s9.σ s9.υ s9.ς s9.hs s9.ep s9.fc s9.ml 1 s9.nx s9.ct s9.nb s9.n s9.LN s9.CM s9.ρ s9.x s9.x0 s9.f s9.gk s9.g1 s9.g2 s9.g3 s9.fb s9.fB s9.fA s9.fV s9.fP s9.fO s9.g s9.fo s9.fd) := ⟨_, rfl⟩
    refine lv_aload_n hx hb dL_law_836 rfl (lv_at hl 4 rfl) ?_
    refine lv_aload_n hx hb dL_law_837 rfl (lv_at hl 5 rfl) ?_
    refine lv_iload hx hb dL_law_838 (lv_at hl 0 rfl) ?_
    refine lv_iconst (v := 1) hx hb dL_law_840 (by decide) ?_
    refine lv_iadd hx hb dL_law_841 ?_
    refine m_sld (v := xs (4 * q + 1)) hx hb hC.hX hC.hbl hC.hbA hS (k := 4 * q + 1) (m_add rfl rfl) (by omega) hC.hL rfl dL_law_842 ?_
    refine lv_aload_n hx hb dL_law_843 rfl (lv_at hl 2 rfl) ?_
    refine lw_w (mc := 1) (ms := 6) (Wc := (LCh cy a s9 s9)) (Wn := (LCh cy a S9 s9)) hC (w_volume_1 l G cy kS vS a.aX a.na a.tr a.sn s9.hs a.hi a.sc s9.ep s9.fc a.ob s9.σ (xs (4 * q + 1)) a.oA s9.fo hC.hl9 hI.1.1 hF) (vx_cwSW 3 hC.S9.2.2.2.2 gL_law_L_volume rfl rfl rfl (by decide +kernel) ⟨Nat.le_of_ble_eq_true rfl, Nat.le_of_ble_eq_true rfl⟩) [0, 1, 24] rfl (by decide) (SameL.cons SameA.rf (SameL.cons SameA.rf (SameL.cons SameA.rf SameL.nil))) (by subst eS; rfl) hP hD hS rfl hl.1 rfl (Nat.le_of_ble_eq_true rfl) ⟨hc1, hs1⟩ dL_law_844 (fun H locs hP hD hS => ?_)
    refine lv_istore (lv' := [(6, .int 1), (5, .int (nI (4 * q))), (4, .ref a.oD), (3, .ref a.oA), (2, .ref a.am), (1, .ref a.aX), (0, .ref b)]) hx hb dL_law_847 hl (by decide) rfl (fun ls hl => ?_)
    refine lv_aload_n hx hb dL_law_849 rfl (lv_at hl 4 rfl) ?_
    refine lv_aload_n hx hb dL_law_850 rfl (lv_at hl 6 rfl) ?_
    refine lv_iload hx hb dL_law_851 (lv_at hl 1 rfl) ?_
    refine lv_iconst (v := 1) hx hb dL_law_853 (by decide) ?_
    refine lv_iadd hx hb dL_law_854 ?_
    refine m_sld (v := xs (4 * q + 1)) hx hb hC.hX hC.hbl hC.hbA hS (k := 4 * q + 1) (m_add rfl rfl) (by omega) hC.hL rfl dL_law_855 ?_
    refine lw_m (s1 := S9) (t1 := s9) (Wn := (LCh cy a S9 S9)) hC (c_X8_volume_no l G cy a.am a.aS a.aBf a.aAs a.aSv a.aPa a.aOu a.aTx a.aCo s9.ct s9.nb s9.LN ((s9.x0).1) s9.CM s9.hs s9.th (bI (s9.x0).2) s9.ep s9.fc s9.σ (xs (4 * q + 1)) hI.1.1 hF) (cwV 1 hC.S9.2.2.2.2 gL_law_X8_volume rfl rfl rfl (by decide +kernel) ⟨Nat.le_of_ble_eq_true rfl, Nat.le_of_ble_eq_true rfl⟩) [15, 16] rfl (by decide) (SameR.cons (SameR.cons SameR.nil)) (by subst eS; rfl) hP hD hS rfl hl.1 rfl (Nat.le_of_ble_eq_true rfl) ⟨hc1, hs1⟩ dL_law_856 (fun H locs hP hD hS => ?_)
    refine lv_istore (lv' := [(7, .int 0), (6, .int 1), (5, .int (nI (4 * q))), (4, .ref a.oD), (3, .ref a.oA), (2, .ref a.am), (1, .ref a.aX), (0, .ref b)]) hx hb dL_law_859 hl (by decide) rfl (fun ls hl => ?_)
    refine lv_aload_n hx hb dL_law_861 rfl (lv_at hl 5 rfl) ?_
    refine lw_thrown (s1 := S9) (t1 := S9) (k := 1) hC hP (by subst eS; rfl) hl.1 (Nat.le_of_ble_eq_true rfl) ⟨hc1, hs1⟩ dL_law_862 ?_
    refine lv_iload hx hb dL_law_865 (lv_at hl 1 rfl) ?_
    refine lv_icmp_eq (tgt := 872) hx hb dL_law_867 (by decide) (fun c_867 => ?_) (fun c_867 => ?_)
    rotate_left
    · exact absurd c_867 (by decide)
    refine lv_iload hx hb dL_law_872 (lv_at hl 1 rfl) ?_
    refine lv_if_ne (tgt := 889) hx hb dL_law_874 (by decide) (fun c_874 => ?_) (fun c_874 => ?_)
    rotate_left
    · exact absurd c_874 (by decide)
    refine lv_goto (tgt := 2890) hx hb dL_law_889 (by decide) ?_
    exact kk S9 H locs ls (LI.of (LI.mono hI (by omega)) (by subst eS; rfl) (by subst eS; rfl) (by subst eS; rfl) (by subst eS; rfl) (by subst eS; rfl) (by subst eS; rfl) (by subst eS; rfl) (by subst eS; rfl) (by subst eS; rfl) (by subst eS; rfl) (by subst eS; rfl) (by subst eS; rfl) (by subst eS; rfl) (by subst eS; rfl) (by subst eS; rfl)) hP hD hS (lv_sub hl [2, 3, 4, 5, 6, 7] rfl)

set_option maxRecDepth 100000 in
set_option maxHeartbeats 4000000 in
theorem case_10 {p : Program} {l : Launch} {e : Env} {s : State} {m : MethodId} {below : List Frame} {meth : Method} {cq : Code} {G : va_G} {cy : Nat → ClassId} {kS vS : Nat → Nat} {A : Nat → Prop} {a : LA} {b L q : Nat} {xs : Nat → Int32} {Q : State → Prop} {n0 cells slots : Nat} (hC : LC l p s m meth cq G cy kS vS A b L xs) (hq : 4 * q + 4 ≤ L) (hn0 : n0 < 1000000) (hc1 : cells + 1 ≤ room_1.cells) (hs1 : slots + 6 ≤ room_1.slots) (kk : LGo p l e s m below meth cq G cy A a b q Q (n0 + 300) (cells + 1) (slots + 6) 2890) : LGo p l e s m below meth cq G cy A a b q Q n0 cells slots 892 := by
  intro s9 H locs ls hI hP hD hS hl
  obtain ⟨hx, hb, hml, hown, hts⟩ := id hC.S9
  have hL9 := hC.hL
  have hc0 : cells + 0 ≤ room_1.cells := Nat.le_of_succ_le hc1
  have hcn : cells ≤ room_1.cells := Nat.le_of_succ_le hc1
  have hs0 : slots + 0 ≤ room_1.slots := Nat.le_trans (Nat.le_add_right slots 6) hs1
  have hsn : slots ≤ room_1.slots := Nat.le_trans (Nat.le_add_right slots 6) hs1
  have ho := hI.1.1
  have hN0 := ho.1
  have hM0 := ho.2.1
  have hE0 := ho.2.2.1
  have hnx := hI.2.2.2.2.1
  have hct := hI.2.2.2.2.2.1
  by_cases hF : inI (xs (4 * q + 1)) (nI (nB s9.σ)) = true
  · obtain ⟨j, hj, e1⟩ := ix_of (by omega) hF
    obtain ⟨S9, eS⟩ : ∃ z : LwS, z = (LwS.mk s9.σ s9.υ s9.ς s9.hs s9.ep s9.fc s9.ml 0 s9.nx s9.ct s9.nb s9.n s9.LN s9.CM s9.ρ s9.x s9.x0 s9.f s9.gk s9.g1 s9.g2 s9.g3 s9.fb s9.fB s9.fA s9.fV s9.fP s9.fO s9.g (fun _ => (hB s9.σ j).toInt64) s9.fd) := ⟨_, rfl⟩
    refine lv_aload_n hx hb dL_law_892 rfl (lv_at hl 4 rfl) ?_
    refine lv_aload_n hx hb dL_law_893 rfl (lv_at hl 5 rfl) ?_
    refine lv_iload hx hb dL_law_894 (lv_at hl 0 rfl) ?_
    refine lv_iconst (v := 1) hx hb dL_law_896 (by decide) ?_
    refine lv_iadd hx hb dL_law_897 ?_
    refine m_sld (v := nI j) hx hb hC.hX hC.hbl hC.hbA hS (k := 4 * q + 1) (m_add rfl rfl) (by omega) hC.hL e1 dL_law_898 ?_
    refine lv_aload_n hx hb dL_law_899 rfl (lv_at hl 2 rfl) ?_
    refine lw_w (mc := 0) (ms := 0) (Wc := (LCh cy a s9 s9)) (Wn := (LCh cy a S9 s9)) hC (w_heat_ok l G cy kS vS a.aX a.na a.tr a.sn s9.hs a.hi a.sc s9.ep s9.fc a.ob s9.σ j a.oA s9.fo hI.1.1 hj) (vx_cwSW 3 hC.S9.2.2.2.2 gL_law_L_heat rfl rfl rfl (by decide +kernel) ⟨Nat.le_of_ble_eq_true rfl, Nat.le_of_ble_eq_true rfl⟩) [0, 1, 24] rfl (by decide) (SameL.cons SameA.rf (SameL.cons SameA.rf (SameL.cons SameA.one SameL.nil))) (by subst eS; rfl) hP hD hS rfl hl.1 rfl (Nat.le_of_ble_eq_true rfl) ⟨hc0, hs0⟩ dL_law_900 (fun H locs hP hD hS => ?_)
    refine lv_istore (lv' := [(6, .int 0), (5, .int (nI (4 * q))), (4, .ref a.oD), (3, .ref a.oA), (2, .ref a.am), (1, .ref a.aX), (0, .ref b)]) hx hb dL_law_903 hl (by decide) rfl (fun ls hl => ?_)
    refine lv_aload_n hx hb dL_law_905 rfl (lv_at hl 4 rfl) ?_
    refine lv_aload_n hx hb dL_law_906 rfl (lv_at hl 6 rfl) ?_
    refine lv_iload hx hb dL_law_907 (lv_at hl 1 rfl) ?_
    refine lv_iconst (v := 1) hx hb dL_law_909 (by decide) ?_
    refine lv_iadd hx hb dL_law_910 ?_
    refine m_sld (v := nI j) hx hb hC.hX hC.hbl hC.hbA hS (k := 4 * q + 1) (m_add rfl rfl) (by omega) hC.hL e1 dL_law_911 ?_
    refine lw_m (s1 := S9) (t1 := s9) (Wn := (LCh cy a S9 S9)) hC (c_X8_heat_ok l G cy a.am a.aS a.aBf a.aAs a.aSv a.aPa a.aOu a.aTx a.aCo s9.ct s9.nb s9.LN ((s9.x0).1) s9.CM s9.hs s9.th (bI (s9.x0).2) s9.ep s9.fc s9.σ j hI.1.1 hj) (cwV 1 hC.S9.2.2.2.2 gL_law_X8_heat rfl rfl rfl (by decide +kernel) ⟨Nat.le_of_ble_eq_true rfl, Nat.le_of_ble_eq_true rfl⟩) [15, 16] rfl (by decide) (SameR.cons (SameR.cons SameR.nil)) (by subst eS; rfl) hP hD hS rfl hl.1 rfl (Nat.le_of_ble_eq_true rfl) ⟨hcn, hsn⟩ dL_law_912 (fun H locs hP hD hS => ?_)
    refine lv_istore (lv' := [(7, .int (hB s9.σ j)), (6, .int 0), (5, .int (nI (4 * q))), (4, .ref a.oD), (3, .ref a.oA), (2, .ref a.am), (1, .ref a.aX), (0, .ref b)]) hx hb dL_law_915 hl (by decide) rfl (fun ls hl => ?_)
    refine lv_aload_n hx hb dL_law_917 rfl (lv_at hl 5 rfl) ?_
    refine lw_thrown (s1 := S9) (t1 := S9) (k := 0) hC hP (by subst eS; rfl) hl.1 (Nat.le_of_ble_eq_true rfl) ⟨hcn, hsn⟩ dL_law_918 ?_
    refine lv_iload hx hb dL_law_921 (lv_at hl 1 rfl) ?_
    refine lv_icmp_eq (tgt := 928) hx hb dL_law_923 (by decide) (fun c_923 => ?_) (fun c_923 => ?_)
    rotate_left
    · exact absurd c_923 (by decide)
    refine lv_iload hx hb dL_law_928 (lv_at hl 1 rfl) ?_
    refine lv_if_ne (tgt := 945) hx hb dL_law_930 (by decide) (fun c_930 => ?_) (fun c_930 => ?_)
    · exact absurd c_930 (by decide)
    refine lv_aload_n hx hb dL_law_933 rfl (lv_at hl 4 rfl) ?_
    refine lv_iconst (v := 0) hx hb dL_law_934 (by decide) ?_
    refine lw_ldL (s1 := S9) (t1 := S9) (x := (hB s9.σ j).toInt64) hC hP (by subst eS; rfl) dL_law_935 ?_
    refine lv_iload hx hb dL_law_936 (lv_at hl 0 rfl) ?_
    refine lv_i2l hx hb dL_law_938 rfl ?_
    refine m_lcmp0 hx hb rfl dL_law_939 ?_
    refine lv_if_eq (tgt := 945) hx hb dL_law_940 (by decide) (fun c_940 => ?_) (fun c_940 => ?_)
    rotate_left
    · exact absurd c_940 (by decide)
    refine lv_goto (tgt := 2890) hx hb dL_law_945 (by decide) ?_
    refine W.widen (k := cells + 1) (n := slots + 6) (by omega) (by omega) ?_
    exact kk S9 H locs ls (LI.of (LI.mono hI (by omega)) (by subst eS; rfl) (by subst eS; rfl) (by subst eS; rfl) (by subst eS; rfl) (by subst eS; rfl) (by subst eS; rfl) (by subst eS; rfl) (by subst eS; rfl) (by subst eS; rfl) (by subst eS; rfl) (by subst eS; rfl) (by subst eS; rfl) (by subst eS; rfl) (by subst eS; rfl) (by subst eS; rfl)) hP hD hS (lv_sub hl [2, 3, 4, 5, 6, 7] rfl)
  · obtain ⟨S9, eS⟩ : ∃ z : LwS, z = (LwS.mk s9.σ s9.υ s9.ς s9.hs s9.ep s9.fc s9.ml 1 s9.nx s9.ct s9.nb s9.n s9.LN s9.CM s9.ρ s9.x s9.x0 s9.f s9.gk s9.g1 s9.g2 s9.g3 s9.fb s9.fB s9.fA s9.fV s9.fP s9.fO s9.g s9.fo s9.fd) := ⟨_, rfl⟩
    refine lv_aload_n hx hb dL_law_892 rfl (lv_at hl 4 rfl) ?_
    refine lv_aload_n hx hb dL_law_893 rfl (lv_at hl 5 rfl) ?_
    refine lv_iload hx hb dL_law_894 (lv_at hl 0 rfl) ?_
    refine lv_iconst (v := 1) hx hb dL_law_896 (by decide) ?_
    refine lv_iadd hx hb dL_law_897 ?_
    refine m_sld (v := xs (4 * q + 1)) hx hb hC.hX hC.hbl hC.hbA hS (k := 4 * q + 1) (m_add rfl rfl) (by omega) hC.hL rfl dL_law_898 ?_
    refine lv_aload_n hx hb dL_law_899 rfl (lv_at hl 2 rfl) ?_
    refine lw_w (mc := 1) (ms := 6) (Wc := (LCh cy a s9 s9)) (Wn := (LCh cy a S9 s9)) hC (w_heat_1 l G cy kS vS a.aX a.na a.tr a.sn s9.hs a.hi a.sc s9.ep s9.fc a.ob s9.σ (xs (4 * q + 1)) a.oA s9.fo hC.hl9 hI.1.1 hF) (vx_cwSW 3 hC.S9.2.2.2.2 gL_law_L_heat rfl rfl rfl (by decide +kernel) ⟨Nat.le_of_ble_eq_true rfl, Nat.le_of_ble_eq_true rfl⟩) [0, 1, 24] rfl (by decide) (SameL.cons SameA.rf (SameL.cons SameA.rf (SameL.cons SameA.rf SameL.nil))) (by subst eS; rfl) hP hD hS rfl hl.1 rfl (Nat.le_of_ble_eq_true rfl) ⟨hc1, hs1⟩ dL_law_900 (fun H locs hP hD hS => ?_)
    refine lv_istore (lv' := [(6, .int 1), (5, .int (nI (4 * q))), (4, .ref a.oD), (3, .ref a.oA), (2, .ref a.am), (1, .ref a.aX), (0, .ref b)]) hx hb dL_law_903 hl (by decide) rfl (fun ls hl => ?_)
    refine lv_aload_n hx hb dL_law_905 rfl (lv_at hl 4 rfl) ?_
    refine lv_aload_n hx hb dL_law_906 rfl (lv_at hl 6 rfl) ?_
    refine lv_iload hx hb dL_law_907 (lv_at hl 1 rfl) ?_
    refine lv_iconst (v := 1) hx hb dL_law_909 (by decide) ?_
    refine lv_iadd hx hb dL_law_910 ?_
    refine m_sld (v := xs (4 * q + 1)) hx hb hC.hX hC.hbl hC.hbA hS (k := 4 * q + 1) (m_add rfl rfl) (by omega) hC.hL rfl dL_law_911 ?_
    refine lw_m (s1 := S9) (t1 := s9) (Wn := (LCh cy a S9 S9)) hC (c_X8_heat_no l G cy a.am a.aS a.aBf a.aAs a.aSv a.aPa a.aOu a.aTx a.aCo s9.ct s9.nb s9.LN ((s9.x0).1) s9.CM s9.hs s9.th (bI (s9.x0).2) s9.ep s9.fc s9.σ (xs (4 * q + 1)) hI.1.1 hF) (cwV 1 hC.S9.2.2.2.2 gL_law_X8_heat rfl rfl rfl (by decide +kernel) ⟨Nat.le_of_ble_eq_true rfl, Nat.le_of_ble_eq_true rfl⟩) [15, 16] rfl (by decide) (SameR.cons (SameR.cons SameR.nil)) (by subst eS; rfl) hP hD hS rfl hl.1 rfl (Nat.le_of_ble_eq_true rfl) ⟨hc1, hs1⟩ dL_law_912 (fun H locs hP hD hS => ?_)
    refine lv_istore (lv' := [(7, .int 0), (6, .int 1), (5, .int (nI (4 * q))), (4, .ref a.oD), (3, .ref a.oA), (2, .ref a.am), (1, .ref a.aX), (0, .ref b)]) hx hb dL_law_915 hl (by decide) rfl (fun ls hl => ?_)
    refine lv_aload_n hx hb dL_law_917 rfl (lv_at hl 5 rfl) ?_
    refine lw_thrown (s1 := S9) (t1 := S9) (k := 1) hC hP (by subst eS; rfl) hl.1 (Nat.le_of_ble_eq_true rfl) ⟨hc1, hs1⟩ dL_law_918 ?_
    refine lv_iload hx hb dL_law_921 (lv_at hl 1 rfl) ?_
    refine lv_icmp_eq (tgt := 928) hx hb dL_law_923 (by decide) (fun c_923 => ?_) (fun c_923 => ?_)
    rotate_left
    · exact absurd c_923 (by decide)
    refine lv_iload hx hb dL_law_928 (lv_at hl 1 rfl) ?_
    refine lv_if_ne (tgt := 945) hx hb dL_law_930 (by decide) (fun c_930 => ?_) (fun c_930 => ?_)
    rotate_left
    · exact absurd c_930 (by decide)
    refine lv_goto (tgt := 2890) hx hb dL_law_945 (by decide) ?_
    exact kk S9 H locs ls (LI.of (LI.mono hI (by omega)) (by subst eS; rfl) (by subst eS; rfl) (by subst eS; rfl) (by subst eS; rfl) (by subst eS; rfl) (by subst eS; rfl) (by subst eS; rfl) (by subst eS; rfl) (by subst eS; rfl) (by subst eS; rfl) (by subst eS; rfl) (by subst eS; rfl) (by subst eS; rfl) (by subst eS; rfl) (by subst eS; rfl)) hP hD hS (lv_sub hl [2, 3, 4, 5, 6, 7] rfl)

set_option maxRecDepth 100000 in
set_option maxHeartbeats 4000000 in
theorem case_11 {p : Program} {l : Launch} {e : Env} {s : State} {m : MethodId} {below : List Frame} {meth : Method} {cq : Code} {G : va_G} {cy : Nat → ClassId} {kS vS : Nat → Nat} {A : Nat → Prop} {a : LA} {b L q : Nat} {xs : Nat → Int32} {Q : State → Prop} {n0 cells slots : Nat} (hC : LC l p s m meth cq G cy kS vS A b L xs) (hq : 4 * q + 4 ≤ L) (hn0 : n0 < 1000000) (hc1 : cells + 1 ≤ room_1.cells) (hs1 : slots + 6 ≤ room_1.slots) (kk : LGo p l e s m below meth cq G cy A a b q Q (n0 + 300) (cells + 1) (slots + 6) 2890) : LGo p l e s m below meth cq G cy A a b q Q n0 cells slots 948 := by
  intro s9 H locs ls hI hP hD hS hl
  obtain ⟨hx, hb, hml, hown, hts⟩ := id hC.S9
  have hL9 := hC.hL
  have hc0 : cells + 0 ≤ room_1.cells := Nat.le_of_succ_le hc1
  have hcn : cells ≤ room_1.cells := Nat.le_of_succ_le hc1
  have hs0 : slots + 0 ≤ room_1.slots := Nat.le_trans (Nat.le_add_right slots 6) hs1
  have hsn : slots ≤ room_1.slots := Nat.le_trans (Nat.le_add_right slots 6) hs1
  have ho := hI.1.1
  have hN0 := ho.1
  have hM0 := ho.2.1
  have hE0 := ho.2.2.1
  have hnx := hI.2.2.2.2.1
  have hct := hI.2.2.2.2.2.1
  by_cases hF : inI (xs (4 * q + 1)) (nI (nB s9.σ)) = true
  · obtain ⟨j, hj, e1⟩ := ix_of (by omega) hF
    by_cases hwt : wet (vB s9.σ) j = true
    · obtain ⟨S9, eS⟩ : ∃ z : LwS, z = (LwS.mk s9.σ s9.υ s9.ς s9.hs s9.ep s9.fc s9.ml 0 s9.nx s9.ct s9.nb s9.n s9.LN s9.CM s9.ρ s9.x s9.x0 s9.f s9.gk s9.g1 s9.g2 s9.g3 s9.fb s9.fB s9.fA s9.fV s9.fP s9.fO s9.g (fun _ => (rdeg (hB s9.σ j) (vB s9.σ j)).toInt64) s9.fd) := ⟨_, rfl⟩
      refine lv_aload_n hx hb dL_law_948 rfl (lv_at hl 4 rfl) ?_
      refine lv_aload_n hx hb dL_law_949 rfl (lv_at hl 5 rfl) ?_
      refine lv_iload hx hb dL_law_950 (lv_at hl 0 rfl) ?_
      refine lv_iconst (v := 1) hx hb dL_law_952 (by decide) ?_
      refine lv_iadd hx hb dL_law_953 ?_
      refine m_sld (v := nI j) hx hb hC.hX hC.hbl hC.hbA hS (k := 4 * q + 1) (m_add rfl rfl) (by omega) hC.hL e1 dL_law_954 ?_
      refine lv_aload_n hx hb dL_law_955 rfl (lv_at hl 2 rfl) ?_
      refine lw_w (mc := 0) (ms := 0) (Wc := (LCh cy a s9 s9)) (Wn := (LCh cy a S9 s9)) hC (w_temperature_ok l G cy kS vS a.aX a.na a.tr a.sn s9.hs a.hi a.sc s9.ep s9.fc a.ob s9.σ j a.oA s9.fo hI.1.1 hj hwt) (vx_cwSW 3 hC.S9.2.2.2.2 gL_law_L_temperature rfl rfl rfl (by decide +kernel) ⟨Nat.le_of_ble_eq_true rfl, Nat.le_of_ble_eq_true rfl⟩) [0, 1, 24] rfl (by decide) (SameL.cons SameA.rf (SameL.cons SameA.rf (SameL.cons SameA.one SameL.nil))) (by subst eS; rfl) hP hD hS rfl hl.1 rfl (Nat.le_of_ble_eq_true rfl) ⟨hc0, hs0⟩ dL_law_956 (fun H locs hP hD hS => ?_)
      refine lv_istore (lv' := [(6, .int 0), (5, .int (nI (4 * q))), (4, .ref a.oD), (3, .ref a.oA), (2, .ref a.am), (1, .ref a.aX), (0, .ref b)]) hx hb dL_law_959 hl (by decide) rfl (fun ls hl => ?_)
      refine lv_aload_n hx hb dL_law_961 rfl (lv_at hl 4 rfl) ?_
      refine lv_aload_n hx hb dL_law_962 rfl (lv_at hl 6 rfl) ?_
      refine lv_iload hx hb dL_law_963 (lv_at hl 1 rfl) ?_
      refine lv_iconst (v := 1) hx hb dL_law_965 (by decide) ?_
      refine lv_iadd hx hb dL_law_966 ?_
      refine m_sld (v := nI j) hx hb hC.hX hC.hbl hC.hbA hS (k := 4 * q + 1) (m_add rfl rfl) (by omega) hC.hL e1 dL_law_967 ?_
      refine lw_m (s1 := S9) (t1 := s9) (Wn := (LCh cy a S9 S9)) hC (c_X8_temperature_ok l G cy a.am a.aS a.aBf a.aAs a.aSv a.aPa a.aOu a.aTx a.aCo s9.ct s9.nb s9.LN ((s9.x0).1) s9.CM s9.hs s9.th (bI (s9.x0).2) s9.ep s9.fc s9.σ j hI.1.1 hj hwt) (cwV 1 hC.S9.2.2.2.2 gL_law_X8_temperature rfl rfl rfl (by decide +kernel) ⟨Nat.le_of_ble_eq_true rfl, Nat.le_of_ble_eq_true rfl⟩) [15, 16] rfl (by decide) (SameR.cons (SameR.cons SameR.nil)) (by subst eS; rfl) hP hD hS rfl hl.1 rfl (Nat.le_of_ble_eq_true rfl) ⟨hcn, hsn⟩ dL_law_968 (fun H locs hP hD hS => ?_)
      refine lv_istore (lv' := [(7, .int (rdeg (hB s9.σ j) (vB s9.σ j))), (6, .int 0), (5, .int (nI (4 * q))), (4, .ref a.oD), (3, .ref a.oA), (2, .ref a.am), (1, .ref a.aX), (0, .ref b)]) hx hb dL_law_971 hl (by decide) rfl (fun ls hl => ?_)
      refine lv_aload_n hx hb dL_law_973 rfl (lv_at hl 5 rfl) ?_
      refine lw_thrown (s1 := S9) (t1 := S9) (k := 0) hC hP (by subst eS; rfl) hl.1 (Nat.le_of_ble_eq_true rfl) ⟨hcn, hsn⟩ dL_law_974 ?_
      refine lv_iload hx hb dL_law_977 (lv_at hl 1 rfl) ?_
      refine lv_icmp_eq (tgt := 984) hx hb dL_law_979 (by decide) (fun c_979 => ?_) (fun c_979 => ?_)
      rotate_left
      · exact absurd c_979 (by decide)
      refine lv_iload hx hb dL_law_984 (lv_at hl 1 rfl) ?_
      refine lv_if_ne (tgt := 1001) hx hb dL_law_986 (by decide) (fun c_986 => ?_) (fun c_986 => ?_)
      · exact absurd c_986 (by decide)
      refine lv_aload_n hx hb dL_law_989 rfl (lv_at hl 4 rfl) ?_
      refine lv_iconst (v := 0) hx hb dL_law_990 (by decide) ?_
      refine lw_ldL (s1 := S9) (t1 := S9) (x := (rdeg (hB s9.σ j) (vB s9.σ j)).toInt64) hC hP (by subst eS; rfl) dL_law_991 ?_
      refine lv_iload hx hb dL_law_992 (lv_at hl 0 rfl) ?_
      refine lv_i2l hx hb dL_law_994 rfl ?_
      refine m_lcmp0 hx hb rfl dL_law_995 ?_
      refine lv_if_eq (tgt := 1001) hx hb dL_law_996 (by decide) (fun c_996 => ?_) (fun c_996 => ?_)
      rotate_left
      · exact absurd c_996 (by decide)
      refine lv_goto (tgt := 2890) hx hb dL_law_1001 (by decide) ?_
      refine W.widen (k := cells + 1) (n := slots + 6) (by omega) (by omega) ?_
      exact kk S9 H locs ls (LI.of (LI.mono hI (by omega)) (by subst eS; rfl) (by subst eS; rfl) (by subst eS; rfl) (by subst eS; rfl) (by subst eS; rfl) (by subst eS; rfl) (by subst eS; rfl) (by subst eS; rfl) (by subst eS; rfl) (by subst eS; rfl) (by subst eS; rfl) (by subst eS; rfl) (by subst eS; rfl) (by subst eS; rfl) (by subst eS; rfl)) hP hD hS (lv_sub hl [2, 3, 4, 5, 6, 7] rfl)
    · obtain ⟨S9, eS⟩ : ∃ z : LwS, z = (LwS.mk s9.σ s9.υ s9.ς s9.hs s9.ep s9.fc s9.ml 2 s9.nx s9.ct s9.nb s9.n s9.LN s9.CM s9.ρ s9.x s9.x0 s9.f s9.gk s9.g1 s9.g2 s9.g3 s9.fb s9.fB s9.fA s9.fV s9.fP s9.fO s9.g s9.fo s9.fd) := ⟨_, rfl⟩
      refine lv_aload_n hx hb dL_law_948 rfl (lv_at hl 4 rfl) ?_
      refine lv_aload_n hx hb dL_law_949 rfl (lv_at hl 5 rfl) ?_
      refine lv_iload hx hb dL_law_950 (lv_at hl 0 rfl) ?_
      refine lv_iconst (v := 1) hx hb dL_law_952 (by decide) ?_
      refine lv_iadd hx hb dL_law_953 ?_
      refine m_sld (v := nI j) hx hb hC.hX hC.hbl hC.hbA hS (k := 4 * q + 1) (m_add rfl rfl) (by omega) hC.hL e1 dL_law_954 ?_
      refine lv_aload_n hx hb dL_law_955 rfl (lv_at hl 2 rfl) ?_
      refine lw_w (mc := 1) (ms := 6) (Wc := (LCh cy a s9 s9)) (Wn := (LCh cy a S9 s9)) hC (w_temperature_2 l G cy kS vS a.aX a.na a.tr a.sn s9.hs a.hi a.sc s9.ep s9.fc a.ob s9.σ j a.oA s9.fo hC.hl9 hI.1.1 hj hwt) (vx_cwSW 3 hC.S9.2.2.2.2 gL_law_L_temperature rfl rfl rfl (by decide +kernel) ⟨Nat.le_of_ble_eq_true rfl, Nat.le_of_ble_eq_true rfl⟩) [0, 1, 24] rfl (by decide) (SameL.cons SameA.rf (SameL.cons SameA.rf (SameL.cons SameA.rf SameL.nil))) (by subst eS; rfl) hP hD hS rfl hl.1 rfl (Nat.le_of_ble_eq_true rfl) ⟨hc1, hs1⟩ dL_law_956 (fun H locs hP hD hS => ?_)
      refine lv_istore (lv' := [(6, .int 2), (5, .int (nI (4 * q))), (4, .ref a.oD), (3, .ref a.oA), (2, .ref a.am), (1, .ref a.aX), (0, .ref b)]) hx hb dL_law_959 hl (by decide) rfl (fun ls hl => ?_)
      refine lv_aload_n hx hb dL_law_961 rfl (lv_at hl 4 rfl) ?_
      refine lv_aload_n hx hb dL_law_962 rfl (lv_at hl 6 rfl) ?_
      refine lv_iload hx hb dL_law_963 (lv_at hl 1 rfl) ?_
      refine lv_iconst (v := 1) hx hb dL_law_965 (by decide) ?_
      refine lv_iadd hx hb dL_law_966 ?_
      refine m_sld (v := nI j) hx hb hC.hX hC.hbl hC.hbA hS (k := 4 * q + 1) (m_add rfl rfl) (by omega) hC.hL e1 dL_law_967 ?_
      refine lw_m (s1 := S9) (t1 := s9) (Wn := (LCh cy a S9 S9)) hC (c_X8_temperature_no2 l G cy a.am a.aS a.aBf a.aAs a.aSv a.aPa a.aOu a.aTx a.aCo s9.ct s9.nb s9.LN ((s9.x0).1) s9.CM s9.hs s9.th (bI (s9.x0).2) s9.ep s9.fc s9.σ j hI.1.1 hj hwt) (cwV 1 hC.S9.2.2.2.2 gL_law_X8_temperature rfl rfl rfl (by decide +kernel) ⟨Nat.le_of_ble_eq_true rfl, Nat.le_of_ble_eq_true rfl⟩) [15, 16] rfl (by decide) (SameR.cons (SameR.cons SameR.nil)) (by subst eS; rfl) hP hD hS rfl hl.1 rfl (Nat.le_of_ble_eq_true rfl) ⟨hc1, hs1⟩ dL_law_968 (fun H locs hP hD hS => ?_)
      refine lv_istore (lv' := [(7, .int 0), (6, .int 2), (5, .int (nI (4 * q))), (4, .ref a.oD), (3, .ref a.oA), (2, .ref a.am), (1, .ref a.aX), (0, .ref b)]) hx hb dL_law_971 hl (by decide) rfl (fun ls hl => ?_)
      refine lv_aload_n hx hb dL_law_973 rfl (lv_at hl 5 rfl) ?_
      refine lw_thrown (s1 := S9) (t1 := S9) (k := 2) hC hP (by subst eS; rfl) hl.1 (Nat.le_of_ble_eq_true rfl) ⟨hc1, hs1⟩ dL_law_974 ?_
      refine lv_iload hx hb dL_law_977 (lv_at hl 1 rfl) ?_
      refine lv_icmp_eq (tgt := 984) hx hb dL_law_979 (by decide) (fun c_979 => ?_) (fun c_979 => ?_)
      rotate_left
      · exact absurd c_979 (by decide)
      refine lv_iload hx hb dL_law_984 (lv_at hl 1 rfl) ?_
      refine lv_if_ne (tgt := 1001) hx hb dL_law_986 (by decide) (fun c_986 => ?_) (fun c_986 => ?_)
      rotate_left
      · exact absurd c_986 (by decide)
      refine lv_goto (tgt := 2890) hx hb dL_law_1001 (by decide) ?_
      exact kk S9 H locs ls (LI.of (LI.mono hI (by omega)) (by subst eS; rfl) (by subst eS; rfl) (by subst eS; rfl) (by subst eS; rfl) (by subst eS; rfl) (by subst eS; rfl) (by subst eS; rfl) (by subst eS; rfl) (by subst eS; rfl) (by subst eS; rfl) (by subst eS; rfl) (by subst eS; rfl) (by subst eS; rfl) (by subst eS; rfl) (by subst eS; rfl)) hP hD hS (lv_sub hl [2, 3, 4, 5, 6, 7] rfl)
  · obtain ⟨S9, eS⟩ : ∃ z : LwS, z = (LwS.mk s9.σ s9.υ s9.ς s9.hs s9.ep s9.fc s9.ml 1 s9.nx s9.ct s9.nb s9.n s9.LN s9.CM s9.ρ s9.x s9.x0 s9.f s9.gk s9.g1 s9.g2 s9.g3 s9.fb s9.fB s9.fA s9.fV s9.fP s9.fO s9.g s9.fo s9.fd) := ⟨_, rfl⟩
    refine lv_aload_n hx hb dL_law_948 rfl (lv_at hl 4 rfl) ?_
    refine lv_aload_n hx hb dL_law_949 rfl (lv_at hl 5 rfl) ?_
    refine lv_iload hx hb dL_law_950 (lv_at hl 0 rfl) ?_
    refine lv_iconst (v := 1) hx hb dL_law_952 (by decide) ?_
    refine lv_iadd hx hb dL_law_953 ?_
    refine m_sld (v := xs (4 * q + 1)) hx hb hC.hX hC.hbl hC.hbA hS (k := 4 * q + 1) (m_add rfl rfl) (by omega) hC.hL rfl dL_law_954 ?_
    refine lv_aload_n hx hb dL_law_955 rfl (lv_at hl 2 rfl) ?_
    refine lw_w (mc := 1) (ms := 6) (Wc := (LCh cy a s9 s9)) (Wn := (LCh cy a S9 s9)) hC (w_temperature_1 l G cy kS vS a.aX a.na a.tr a.sn s9.hs a.hi a.sc s9.ep s9.fc a.ob s9.σ (xs (4 * q + 1)) a.oA s9.fo hC.hl9 hI.1.1 hF) (vx_cwSW 3 hC.S9.2.2.2.2 gL_law_L_temperature rfl rfl rfl (by decide +kernel) ⟨Nat.le_of_ble_eq_true rfl, Nat.le_of_ble_eq_true rfl⟩) [0, 1, 24] rfl (by decide) (SameL.cons SameA.rf (SameL.cons SameA.rf (SameL.cons SameA.rf SameL.nil))) (by subst eS; rfl) hP hD hS rfl hl.1 rfl (Nat.le_of_ble_eq_true rfl) ⟨hc1, hs1⟩ dL_law_956 (fun H locs hP hD hS => ?_)
    refine lv_istore (lv' := [(6, .int 1), (5, .int (nI (4 * q))), (4, .ref a.oD), (3, .ref a.oA), (2, .ref a.am), (1, .ref a.aX), (0, .ref b)]) hx hb dL_law_959 hl (by decide) rfl (fun ls hl => ?_)
    refine lv_aload_n hx hb dL_law_961 rfl (lv_at hl 4 rfl) ?_
    refine lv_aload_n hx hb dL_law_962 rfl (lv_at hl 6 rfl) ?_
    refine lv_iload hx hb dL_law_963 (lv_at hl 1 rfl) ?_
    refine lv_iconst (v := 1) hx hb dL_law_965 (by decide) ?_
    refine lv_iadd hx hb dL_law_966 ?_
    refine m_sld (v := xs (4 * q + 1)) hx hb hC.hX hC.hbl hC.hbA hS (k := 4 * q + 1) (m_add rfl rfl) (by omega) hC.hL rfl dL_law_967 ?_
    refine lw_m (s1 := S9) (t1 := s9) (Wn := (LCh cy a S9 S9)) hC (c_X8_temperature_no l G cy a.am a.aS a.aBf a.aAs a.aSv a.aPa a.aOu a.aTx a.aCo s9.ct s9.nb s9.LN ((s9.x0).1) s9.CM s9.hs s9.th (bI (s9.x0).2) s9.ep s9.fc s9.σ (xs (4 * q + 1)) hI.1.1 hF) (cwV 1 hC.S9.2.2.2.2 gL_law_X8_temperature rfl rfl rfl (by decide +kernel) ⟨Nat.le_of_ble_eq_true rfl, Nat.le_of_ble_eq_true rfl⟩) [15, 16] rfl (by decide) (SameR.cons (SameR.cons SameR.nil)) (by subst eS; rfl) hP hD hS rfl hl.1 rfl (Nat.le_of_ble_eq_true rfl) ⟨hc1, hs1⟩ dL_law_968 (fun H locs hP hD hS => ?_)
    refine lv_istore (lv' := [(7, .int 0), (6, .int 1), (5, .int (nI (4 * q))), (4, .ref a.oD), (3, .ref a.oA), (2, .ref a.am), (1, .ref a.aX), (0, .ref b)]) hx hb dL_law_971 hl (by decide) rfl (fun ls hl => ?_)
    refine lv_aload_n hx hb dL_law_973 rfl (lv_at hl 5 rfl) ?_
    refine lw_thrown (s1 := S9) (t1 := S9) (k := 1) hC hP (by subst eS; rfl) hl.1 (Nat.le_of_ble_eq_true rfl) ⟨hc1, hs1⟩ dL_law_974 ?_
    refine lv_iload hx hb dL_law_977 (lv_at hl 1 rfl) ?_
    refine lv_icmp_eq (tgt := 984) hx hb dL_law_979 (by decide) (fun c_979 => ?_) (fun c_979 => ?_)
    rotate_left
    · exact absurd c_979 (by decide)
    refine lv_iload hx hb dL_law_984 (lv_at hl 1 rfl) ?_
    refine lv_if_ne (tgt := 1001) hx hb dL_law_986 (by decide) (fun c_986 => ?_) (fun c_986 => ?_)
    rotate_left
    · exact absurd c_986 (by decide)
    refine lv_goto (tgt := 2890) hx hb dL_law_1001 (by decide) ?_
    exact kk S9 H locs ls (LI.of (LI.mono hI (by omega)) (by subst eS; rfl) (by subst eS; rfl) (by subst eS; rfl) (by subst eS; rfl) (by subst eS; rfl) (by subst eS; rfl) (by subst eS; rfl) (by subst eS; rfl) (by subst eS; rfl) (by subst eS; rfl) (by subst eS; rfl) (by subst eS; rfl) (by subst eS; rfl) (by subst eS; rfl) (by subst eS; rfl)) hP hD hS (lv_sub hl [2, 3, 4, 5, 6, 7] rfl)

set_option maxRecDepth 100000 in
set_option maxHeartbeats 4000000 in
theorem case_12 {p : Program} {l : Launch} {e : Env} {s : State} {m : MethodId} {below : List Frame} {meth : Method} {cq : Code} {G : va_G} {cy : Nat → ClassId} {kS vS : Nat → Nat} {A : Nat → Prop} {a : LA} {b L q : Nat} {xs : Nat → Int32} {Q : State → Prop} {n0 cells slots : Nat} (hC : LC l p s m meth cq G cy kS vS A b L xs) (hq : 4 * q + 4 ≤ L) (hn0 : n0 < 1000000) (hc1 : cells + 1 ≤ room_1.cells) (hs1 : slots + 6 ≤ room_1.slots) (kk : LGo p l e s m below meth cq G cy A a b q Q (n0 + 300) (cells + 1) (slots + 6) 2890) : LGo p l e s m below meth cq G cy A a b q Q n0 cells slots 1004 := by
  intro s9 H locs ls hI hP hD hS hl
  obtain ⟨hx, hb, hml, hown, hts⟩ := id hC.S9
  have hL9 := hC.hL
  have hc0 : cells + 0 ≤ room_1.cells := Nat.le_of_succ_le hc1
  have hcn : cells ≤ room_1.cells := Nat.le_of_succ_le hc1
  have hs0 : slots + 0 ≤ room_1.slots := Nat.le_trans (Nat.le_add_right slots 6) hs1
  have hsn : slots ≤ room_1.slots := Nat.le_trans (Nat.le_add_right slots 6) hs1
  have ho := hI.1.1
  have hN0 := ho.1
  have hM0 := ho.2.1
  have hE0 := ho.2.2.1
  have hnx := hI.2.2.2.2.1
  have hct := hI.2.2.2.2.2.1
  by_cases hF : inI (xs (4 * q + 1)) (nI (nB s9.σ)) = true
  · obtain ⟨j, hj, e1⟩ := ix_of (by omega) hF
    by_cases hwt : wet (vB s9.σ) j = true
    · by_cases hd0 : Op.cmpValue (FP.dcmp (FP.ddiv (FP.i2d (hB s9.σ j)) (FP.i2d (vB s9.σ j))) (FP.ddiv (FP.i2d (hB s9.σ j)) (FP.i2d (vB s9.σ j)))) CmpOp.l = 0
      · obtain ⟨S9, eS⟩ : ∃ z : LwS, z = (LwS.mk s9.σ s9.υ s9.ς s9.hs s9.ep s9.fc s9.ml 0 s9.nx s9.ct s9.nb s9.n s9.LN s9.CM s9.ρ s9.x s9.x0 s9.f s9.gk s9.g1 s9.g2 s9.g3 s9.fb s9.fB s9.fA s9.fV s9.fP s9.fO s9.g s9.fo (fun _ => FP.ddiv (FP.i2d (hB s9.σ j)) (FP.i2d (vB s9.σ j)))) := ⟨_, rfl⟩
        refine lv_aload_n hx hb dL_law_1004 rfl (lv_at hl 4 rfl) ?_
        refine lv_aload_n hx hb dL_law_1005 rfl (lv_at hl 5 rfl) ?_
        refine lv_iload hx hb dL_law_1006 (lv_at hl 0 rfl) ?_
        refine lv_iconst (v := 1) hx hb dL_law_1008 (by decide) ?_
        refine lv_iadd hx hb dL_law_1009 ?_
        refine m_sld (v := nI j) hx hb hC.hX hC.hbl hC.hbA hS (k := 4 * q + 1) (m_add rfl rfl) (by omega) hC.hL e1 dL_law_1010 ?_
        refine lv_aload hx hb dL_law_1011 (lv_at hl 1 rfl) ?_
        refine lw_w (mc := 0) (ms := 0) (Wc := (LCh cy a s9 s9)) (Wn := (LCh cy a S9 s9)) hC (w_exactTemperature_ok l G cy kS vS a.aX a.na a.tr a.sn s9.hs a.hi a.sc s9.ep s9.fc a.ob s9.σ j a.oD s9.fd hI.1.1 hj hwt hI.1.2.1) (vx_cwSW 3 hC.S9.2.2.2.2 gL_law_L_exactTemperature rfl rfl rfl (by decide +kernel) ⟨Nat.le_of_ble_eq_true rfl, Nat.le_of_ble_eq_true rfl⟩) [0, 1, 25] rfl (by decide) (SameL.cons SameA.rf (SameL.cons SameA.rf (SameL.cons SameA.one SameL.nil))) (by subst eS; rfl) hP hD hS rfl hl.1 rfl (Nat.le_of_ble_eq_true rfl) ⟨hc0, hs0⟩ dL_law_1013 (fun H locs hP hD hS => ?_)
        refine lv_istore (lv' := [(6, .int 0), (5, .int (nI (4 * q))), (4, .ref a.oD), (3, .ref a.oA), (2, .ref a.am), (1, .ref a.aX), (0, .ref b)]) hx hb dL_law_1016 hl (by decide) rfl (fun ls hl => ?_)
        refine lv_aload_n hx hb dL_law_1018 rfl (lv_at hl 4 rfl) ?_
        refine lv_aload_n hx hb dL_law_1019 rfl (lv_at hl 6 rfl) ?_
        refine lv_iload hx hb dL_law_1020 (lv_at hl 1 rfl) ?_
        refine lv_iconst (v := 1) hx hb dL_law_1022 (by decide) ?_
        refine lv_iadd hx hb dL_law_1023 ?_
        refine m_sld (v := nI j) hx hb hC.hX hC.hbl hC.hbA hS (k := 4 * q + 1) (m_add rfl rfl) (by omega) hC.hL e1 dL_law_1024 ?_
        refine lw_m (s1 := S9) (t1 := s9) (Wn := (LCh cy a S9 S9)) hC (c_X8_exactTemperature_ok l G cy a.am a.aS a.aBf a.aAs a.aSv a.aPa a.aOu a.aTx a.aCo s9.ct s9.nb s9.LN ((s9.x0).1) s9.CM s9.hs s9.th (bI (s9.x0).2) s9.ep s9.fc s9.σ j hI.1.1 hj hwt hI.1.2.1) (cwV 1 hC.S9.2.2.2.2 gL_law_X8_exactTemperature rfl rfl rfl (by decide +kernel) ⟨Nat.le_of_ble_eq_true rfl, Nat.le_of_ble_eq_true rfl⟩) [15, 16] rfl (by decide) (SameR.cons (SameR.cons SameR.nil)) (by subst eS; rfl) hP hD hS rfl hl.1 rfl (Nat.le_of_ble_eq_true rfl) ⟨hcn, hsn⟩ dL_law_1025 (fun H locs hP hD hS => ?_)
        refine lv_dstore (lv' := [(7, .double (FP.ddiv (FP.i2d (hB s9.σ j)) (FP.i2d (vB s9.σ j)))), (6, .int 0), (5, .int (nI (4 * q))), (4, .ref a.oD), (3, .ref a.oA), (2, .ref a.am), (1, .ref a.aX), (0, .ref b)]) hx hb dL_law_1028 hl (by decide) rfl (fun ls hl => ?_)
        refine lv_aload_n hx hb dL_law_1030 rfl (lv_at hl 5 rfl) ?_
        refine lw_thrown (s1 := S9) (t1 := S9) (k := 0) hC hP (by subst eS; rfl) hl.1 (Nat.le_of_ble_eq_true rfl) ⟨hcn, hsn⟩ dL_law_1031 ?_
        refine lv_iload hx hb dL_law_1034 (lv_at hl 1 rfl) ?_
        refine lv_icmp_eq (tgt := 1041) hx hb dL_law_1036 (by decide) (fun c_1036 => ?_) (fun c_1036 => ?_)
        rotate_left
        · exact absurd c_1036 (by decide)
        refine lv_iload hx hb dL_law_1041 (lv_at hl 1 rfl) ?_
        refine lv_if_ne (tgt := 1078) hx hb dL_law_1043 (by decide) (fun c_1043 => ?_) (fun c_1043 => ?_)
        · exact absurd c_1043 (by decide)
        refine lv_aload hx hb dL_law_1046 (lv_at hl 3 rfl) ?_
        refine lv_iconst (v := 0) hx hb dL_law_1048 (by decide) ?_
        refine lw_ldD (s1 := S9) (t1 := S9) (x := FP.ddiv (FP.i2d (hB s9.σ j)) (FP.i2d (vB s9.σ j))) hC hP (by subst eS; rfl) dL_law_1049 ?_
        refine lv_dload hx hb dL_law_1050 (lv_at hl 0 rfl) ?_
        refine lv_dcmp hx hb dL_law_1052 ?_
        refine lv_if_eq (tgt := 1078) hx hb dL_law_1053 (by decide) (fun c_1053 => ?_) (fun c_1053 => ?_)
        rotate_left
        · exact absurd hd0 c_1053
        refine lv_goto (tgt := 2890) hx hb dL_law_1078 (by decide) ?_
        refine W.widen (k := cells + 1) (n := slots + 6) (by omega) (by omega) ?_
        exact kk S9 H locs ls (LI.of (LI.mono hI (by omega)) (by subst eS; rfl) (by subst eS; rfl) (by subst eS; rfl) (by subst eS; rfl) (by subst eS; rfl) (by subst eS; rfl) (by subst eS; rfl) (by subst eS; rfl) (by subst eS; rfl) (by subst eS; rfl) (by subst eS; rfl) (by subst eS; rfl) (by subst eS; rfl) (by subst eS; rfl) (by subst eS; rfl)) hP hD hS (lv_sub hl [2, 3, 4, 5, 6, 7] rfl)
      · obtain ⟨S9, eS⟩ : ∃ z : LwS, z = (LwS.mk s9.σ s9.υ s9.ς s9.hs s9.ep s9.fc s9.ml 0 s9.nx s9.ct s9.nb s9.n s9.LN s9.CM s9.ρ s9.x s9.x0 s9.f s9.gk s9.g1 s9.g2 s9.g3 s9.fb s9.fB s9.fA s9.fV s9.fP s9.fO s9.g s9.fo (fun _ => FP.ddiv (FP.i2d (hB s9.σ j)) (FP.i2d (vB s9.σ j)))) := ⟨_, rfl⟩
        refine lv_aload_n hx hb dL_law_1004 rfl (lv_at hl 4 rfl) ?_
        refine lv_aload_n hx hb dL_law_1005 rfl (lv_at hl 5 rfl) ?_
        refine lv_iload hx hb dL_law_1006 (lv_at hl 0 rfl) ?_
        refine lv_iconst (v := 1) hx hb dL_law_1008 (by decide) ?_
        refine lv_iadd hx hb dL_law_1009 ?_
        refine m_sld (v := nI j) hx hb hC.hX hC.hbl hC.hbA hS (k := 4 * q + 1) (m_add rfl rfl) (by omega) hC.hL e1 dL_law_1010 ?_
        refine lv_aload hx hb dL_law_1011 (lv_at hl 1 rfl) ?_
        refine lw_w (mc := 0) (ms := 0) (Wc := (LCh cy a s9 s9)) (Wn := (LCh cy a S9 s9)) hC (w_exactTemperature_ok l G cy kS vS a.aX a.na a.tr a.sn s9.hs a.hi a.sc s9.ep s9.fc a.ob s9.σ j a.oD s9.fd hI.1.1 hj hwt hI.1.2.1) (vx_cwSW 3 hC.S9.2.2.2.2 gL_law_L_exactTemperature rfl rfl rfl (by decide +kernel) ⟨Nat.le_of_ble_eq_true rfl, Nat.le_of_ble_eq_true rfl⟩) [0, 1, 25] rfl (by decide) (SameL.cons SameA.rf (SameL.cons SameA.rf (SameL.cons SameA.one SameL.nil))) (by subst eS; rfl) hP hD hS rfl hl.1 rfl (Nat.le_of_ble_eq_true rfl) ⟨hc0, hs0⟩ dL_law_1013 (fun H locs hP hD hS => ?_)
        refine lv_istore (lv' := [(6, .int 0), (5, .int (nI (4 * q))), (4, .ref a.oD), (3, .ref a.oA), (2, .ref a.am), (1, .ref a.aX), (0, .ref b)]) hx hb dL_law_1016 hl (by decide) rfl (fun ls hl => ?_)
        refine lv_aload_n hx hb dL_law_1018 rfl (lv_at hl 4 rfl) ?_
        refine lv_aload_n hx hb dL_law_1019 rfl (lv_at hl 6 rfl) ?_
        refine lv_iload hx hb dL_law_1020 (lv_at hl 1 rfl) ?_
        refine lv_iconst (v := 1) hx hb dL_law_1022 (by decide) ?_
        refine lv_iadd hx hb dL_law_1023 ?_
        refine m_sld (v := nI j) hx hb hC.hX hC.hbl hC.hbA hS (k := 4 * q + 1) (m_add rfl rfl) (by omega) hC.hL e1 dL_law_1024 ?_
        refine lw_m (s1 := S9) (t1 := s9) (Wn := (LCh cy a S9 S9)) hC (c_X8_exactTemperature_ok l G cy a.am a.aS a.aBf a.aAs a.aSv a.aPa a.aOu a.aTx a.aCo s9.ct s9.nb s9.LN ((s9.x0).1) s9.CM s9.hs s9.th (bI (s9.x0).2) s9.ep s9.fc s9.σ j hI.1.1 hj hwt hI.1.2.1) (cwV 1 hC.S9.2.2.2.2 gL_law_X8_exactTemperature rfl rfl rfl (by decide +kernel) ⟨Nat.le_of_ble_eq_true rfl, Nat.le_of_ble_eq_true rfl⟩) [15, 16] rfl (by decide) (SameR.cons (SameR.cons SameR.nil)) (by subst eS; rfl) hP hD hS rfl hl.1 rfl (Nat.le_of_ble_eq_true rfl) ⟨hcn, hsn⟩ dL_law_1025 (fun H locs hP hD hS => ?_)
        refine lv_dstore (lv' := [(7, .double (FP.ddiv (FP.i2d (hB s9.σ j)) (FP.i2d (vB s9.σ j)))), (6, .int 0), (5, .int (nI (4 * q))), (4, .ref a.oD), (3, .ref a.oA), (2, .ref a.am), (1, .ref a.aX), (0, .ref b)]) hx hb dL_law_1028 hl (by decide) rfl (fun ls hl => ?_)
        refine lv_aload_n hx hb dL_law_1030 rfl (lv_at hl 5 rfl) ?_
        refine lw_thrown (s1 := S9) (t1 := S9) (k := 0) hC hP (by subst eS; rfl) hl.1 (Nat.le_of_ble_eq_true rfl) ⟨hcn, hsn⟩ dL_law_1031 ?_
        refine lv_iload hx hb dL_law_1034 (lv_at hl 1 rfl) ?_
        refine lv_icmp_eq (tgt := 1041) hx hb dL_law_1036 (by decide) (fun c_1036 => ?_) (fun c_1036 => ?_)
        rotate_left
        · exact absurd c_1036 (by decide)
        refine lv_iload hx hb dL_law_1041 (lv_at hl 1 rfl) ?_
        refine lv_if_ne (tgt := 1078) hx hb dL_law_1043 (by decide) (fun c_1043 => ?_) (fun c_1043 => ?_)
        · exact absurd c_1043 (by decide)
        refine lv_aload hx hb dL_law_1046 (lv_at hl 3 rfl) ?_
        refine lv_iconst (v := 0) hx hb dL_law_1048 (by decide) ?_
        refine lw_ldD (s1 := S9) (t1 := S9) (x := FP.ddiv (FP.i2d (hB s9.σ j)) (FP.i2d (vB s9.σ j))) hC hP (by subst eS; rfl) dL_law_1049 ?_
        refine lv_dload hx hb dL_law_1050 (lv_at hl 0 rfl) ?_
        refine lv_dcmp hx hb dL_law_1052 ?_
        refine lv_if_eq (tgt := 1078) hx hb dL_law_1053 (by decide) (fun c_1053 => ?_) (fun c_1053 => ?_)
        · exact absurd c_1053 hd0
        refine lv_aload hx hb dL_law_1056 (lv_at hl 3 rfl) ?_
        refine lv_iconst (v := 0) hx hb dL_law_1058 (by decide) ?_
        refine lw_ldD (s1 := S9) (t1 := S9) (x := FP.ddiv (FP.i2d (hB s9.σ j)) (FP.i2d (vB s9.σ j))) hC hP (by subst eS; rfl) dL_law_1059 ?_
        refine lv_aload hx hb dL_law_1060 (lv_at hl 3 rfl) ?_
        refine lv_iconst (v := 0) hx hb dL_law_1062 (by decide) ?_
        refine lw_ldD (s1 := S9) (t1 := S9) (x := FP.ddiv (FP.i2d (hB s9.σ j)) (FP.i2d (vB s9.σ j))) hC hP (by subst eS; rfl) dL_law_1063 ?_
        refine lv_dcmp hx hb dL_law_1064 ?_
        refine lv_if_eq (tgt := 1076) hx hb dL_law_1065 (by decide) (fun c_1065 => ?_) (fun c_1065 => ?_)
        · exact absurd c_1065 hd0
        refine lv_dload hx hb dL_law_1068 (lv_at hl 0 rfl) ?_
        refine lv_dload hx hb dL_law_1070 (lv_at hl 0 rfl) ?_
        refine lv_dcmp hx hb dL_law_1072 ?_
        refine lv_if_ne (tgt := 1078) hx hb dL_law_1073 (by decide) (fun c_1073 => ?_) (fun c_1073 => ?_)
        rotate_left
        · exact absurd c_1073 hd0
        refine lv_goto (tgt := 2890) hx hb dL_law_1078 (by decide) ?_
        refine W.widen (k := cells + 1) (n := slots + 6) (by omega) (by omega) ?_
        exact kk S9 H locs ls (LI.of (LI.mono hI (by omega)) (by subst eS; rfl) (by subst eS; rfl) (by subst eS; rfl) (by subst eS; rfl) (by subst eS; rfl) (by subst eS; rfl) (by subst eS; rfl) (by subst eS; rfl) (by subst eS; rfl) (by subst eS; rfl) (by subst eS; rfl) (by subst eS; rfl) (by subst eS; rfl) (by subst eS; rfl) (by subst eS; rfl)) hP hD hS (lv_sub hl [2, 3, 4, 5, 6, 7] rfl)
    · obtain ⟨S9, eS⟩ : ∃ z : LwS, z = (LwS.mk s9.σ s9.υ s9.ς s9.hs s9.ep s9.fc s9.ml 2 s9.nx s9.ct s9.nb s9.n s9.LN s9.CM s9.ρ s9.x s9.x0 s9.f s9.gk s9.g1 s9.g2 s9.g3 s9.fb s9.fB s9.fA s9.fV s9.fP s9.fO s9.g s9.fo s9.fd) := ⟨_, rfl⟩
      refine lv_aload_n hx hb dL_law_1004 rfl (lv_at hl 4 rfl) ?_
      refine lv_aload_n hx hb dL_law_1005 rfl (lv_at hl 5 rfl) ?_
      refine lv_iload hx hb dL_law_1006 (lv_at hl 0 rfl) ?_
      refine lv_iconst (v := 1) hx hb dL_law_1008 (by decide) ?_
      refine lv_iadd hx hb dL_law_1009 ?_
      refine m_sld (v := nI j) hx hb hC.hX hC.hbl hC.hbA hS (k := 4 * q + 1) (m_add rfl rfl) (by omega) hC.hL e1 dL_law_1010 ?_
      refine lv_aload hx hb dL_law_1011 (lv_at hl 1 rfl) ?_
      refine lw_w (mc := 1) (ms := 6) (Wc := (LCh cy a s9 s9)) (Wn := (LCh cy a S9 s9)) hC (w_exactTemperature_2 l G cy kS vS a.aX a.na a.tr a.sn s9.hs a.hi a.sc s9.ep s9.fc a.ob s9.σ j a.oD s9.fd hC.hl9 hI.1.1 hj hwt) (vx_cwSW 3 hC.S9.2.2.2.2 gL_law_L_exactTemperature rfl rfl rfl (by decide +kernel) ⟨Nat.le_of_ble_eq_true rfl, Nat.le_of_ble_eq_true rfl⟩) [0, 1, 25] rfl (by decide) (SameL.cons SameA.rf (SameL.cons SameA.rf (SameL.cons SameA.rf SameL.nil))) (by subst eS; rfl) hP hD hS rfl hl.1 rfl (Nat.le_of_ble_eq_true rfl) ⟨hc1, hs1⟩ dL_law_1013 (fun H locs hP hD hS => ?_)
      refine lv_istore (lv' := [(6, .int 2), (5, .int (nI (4 * q))), (4, .ref a.oD), (3, .ref a.oA), (2, .ref a.am), (1, .ref a.aX), (0, .ref b)]) hx hb dL_law_1016 hl (by decide) rfl (fun ls hl => ?_)
      refine lv_aload_n hx hb dL_law_1018 rfl (lv_at hl 4 rfl) ?_
      refine lv_aload_n hx hb dL_law_1019 rfl (lv_at hl 6 rfl) ?_
      refine lv_iload hx hb dL_law_1020 (lv_at hl 1 rfl) ?_
      refine lv_iconst (v := 1) hx hb dL_law_1022 (by decide) ?_
      refine lv_iadd hx hb dL_law_1023 ?_
      refine m_sld (v := nI j) hx hb hC.hX hC.hbl hC.hbA hS (k := 4 * q + 1) (m_add rfl rfl) (by omega) hC.hL e1 dL_law_1024 ?_
      refine lw_m (s1 := S9) (t1 := s9) (Wn := (LCh cy a S9 S9)) hC (c_X8_exactTemperature_no2 l G cy a.am a.aS a.aBf a.aAs a.aSv a.aPa a.aOu a.aTx a.aCo s9.ct s9.nb s9.LN ((s9.x0).1) s9.CM s9.hs s9.th (bI (s9.x0).2) s9.ep s9.fc s9.σ j hI.1.1 hj hwt) (cwV 1 hC.S9.2.2.2.2 gL_law_X8_exactTemperature rfl rfl rfl (by decide +kernel) ⟨Nat.le_of_ble_eq_true rfl, Nat.le_of_ble_eq_true rfl⟩) [15, 16] rfl (by decide) (SameR.cons (SameR.cons SameR.nil)) (by subst eS; rfl) hP hD hS rfl hl.1 rfl (Nat.le_of_ble_eq_true rfl) ⟨hc1, hs1⟩ dL_law_1025 (fun H locs hP hD hS => ?_)
      refine lv_dstore (lv' := [(7, .double FP.dconst0), (6, .int 2), (5, .int (nI (4 * q))), (4, .ref a.oD), (3, .ref a.oA), (2, .ref a.am), (1, .ref a.aX), (0, .ref b)]) hx hb dL_law_1028 hl (by decide) rfl (fun ls hl => ?_)
      refine lv_aload_n hx hb dL_law_1030 rfl (lv_at hl 5 rfl) ?_
      refine lw_thrown (s1 := S9) (t1 := S9) (k := 2) hC hP (by subst eS; rfl) hl.1 (Nat.le_of_ble_eq_true rfl) ⟨hc1, hs1⟩ dL_law_1031 ?_
      refine lv_iload hx hb dL_law_1034 (lv_at hl 1 rfl) ?_
      refine lv_icmp_eq (tgt := 1041) hx hb dL_law_1036 (by decide) (fun c_1036 => ?_) (fun c_1036 => ?_)
      rotate_left
      · exact absurd c_1036 (by decide)
      refine lv_iload hx hb dL_law_1041 (lv_at hl 1 rfl) ?_
      refine lv_if_ne (tgt := 1078) hx hb dL_law_1043 (by decide) (fun c_1043 => ?_) (fun c_1043 => ?_)
      rotate_left
      · exact absurd c_1043 (by decide)
      refine lv_goto (tgt := 2890) hx hb dL_law_1078 (by decide) ?_
      exact kk S9 H locs ls (LI.of (LI.mono hI (by omega)) (by subst eS; rfl) (by subst eS; rfl) (by subst eS; rfl) (by subst eS; rfl) (by subst eS; rfl) (by subst eS; rfl) (by subst eS; rfl) (by subst eS; rfl) (by subst eS; rfl) (by subst eS; rfl) (by subst eS; rfl) (by subst eS; rfl) (by subst eS; rfl) (by subst eS; rfl) (by subst eS; rfl)) hP hD hS (lv_sub hl [2, 3, 4, 5, 6, 7] rfl)
  · obtain ⟨S9, eS⟩ : ∃ z : LwS, z = (LwS.mk s9.σ s9.υ s9.ς s9.hs s9.ep s9.fc s9.ml 1 s9.nx s9.ct s9.nb s9.n s9.LN s9.CM s9.ρ s9.x s9.x0 s9.f s9.gk s9.g1 s9.g2 s9.g3 s9.fb s9.fB s9.fA s9.fV s9.fP s9.fO s9.g s9.fo s9.fd) := ⟨_, rfl⟩
    refine lv_aload_n hx hb dL_law_1004 rfl (lv_at hl 4 rfl) ?_
    refine lv_aload_n hx hb dL_law_1005 rfl (lv_at hl 5 rfl) ?_
    refine lv_iload hx hb dL_law_1006 (lv_at hl 0 rfl) ?_
    refine lv_iconst (v := 1) hx hb dL_law_1008 (by decide) ?_
    refine lv_iadd hx hb dL_law_1009 ?_
    refine m_sld (v := xs (4 * q + 1)) hx hb hC.hX hC.hbl hC.hbA hS (k := 4 * q + 1) (m_add rfl rfl) (by omega) hC.hL rfl dL_law_1010 ?_
    refine lv_aload hx hb dL_law_1011 (lv_at hl 1 rfl) ?_
    refine lw_w (mc := 1) (ms := 6) (Wc := (LCh cy a s9 s9)) (Wn := (LCh cy a S9 s9)) hC (w_exactTemperature_1 l G cy kS vS a.aX a.na a.tr a.sn s9.hs a.hi a.sc s9.ep s9.fc a.ob s9.σ (xs (4 * q + 1)) a.oD s9.fd hC.hl9 hI.1.1 hF) (vx_cwSW 3 hC.S9.2.2.2.2 gL_law_L_exactTemperature rfl rfl rfl (by decide +kernel) ⟨Nat.le_of_ble_eq_true rfl, Nat.le_of_ble_eq_true rfl⟩) [0, 1, 25] rfl (by decide) (SameL.cons SameA.rf (SameL.cons SameA.rf (SameL.cons SameA.rf SameL.nil))) (by subst eS; rfl) hP hD hS rfl hl.1 rfl (Nat.le_of_ble_eq_true rfl) ⟨hc1, hs1⟩ dL_law_1013 (fun H locs hP hD hS => ?_)
    refine lv_istore (lv' := [(6, .int 1), (5, .int (nI (4 * q))), (4, .ref a.oD), (3, .ref a.oA), (2, .ref a.am), (1, .ref a.aX), (0, .ref b)]) hx hb dL_law_1016 hl (by decide) rfl (fun ls hl => ?_)
    refine lv_aload_n hx hb dL_law_1018 rfl (lv_at hl 4 rfl) ?_
    refine lv_aload_n hx hb dL_law_1019 rfl (lv_at hl 6 rfl) ?_
    refine lv_iload hx hb dL_law_1020 (lv_at hl 1 rfl) ?_
    refine lv_iconst (v := 1) hx hb dL_law_1022 (by decide) ?_
    refine lv_iadd hx hb dL_law_1023 ?_
    refine m_sld (v := xs (4 * q + 1)) hx hb hC.hX hC.hbl hC.hbA hS (k := 4 * q + 1) (m_add rfl rfl) (by omega) hC.hL rfl dL_law_1024 ?_
    refine lw_m (s1 := S9) (t1 := s9) (Wn := (LCh cy a S9 S9)) hC (c_X8_exactTemperature_no l G cy a.am a.aS a.aBf a.aAs a.aSv a.aPa a.aOu a.aTx a.aCo s9.ct s9.nb s9.LN ((s9.x0).1) s9.CM s9.hs s9.th (bI (s9.x0).2) s9.ep s9.fc s9.σ (xs (4 * q + 1)) hI.1.1 hF) (cwV 1 hC.S9.2.2.2.2 gL_law_X8_exactTemperature rfl rfl rfl (by decide +kernel) ⟨Nat.le_of_ble_eq_true rfl, Nat.le_of_ble_eq_true rfl⟩) [15, 16] rfl (by decide) (SameR.cons (SameR.cons SameR.nil)) (by subst eS; rfl) hP hD hS rfl hl.1 rfl (Nat.le_of_ble_eq_true rfl) ⟨hc1, hs1⟩ dL_law_1025 (fun H locs hP hD hS => ?_)
    refine lv_dstore (lv' := [(7, .double FP.dconst0), (6, .int 1), (5, .int (nI (4 * q))), (4, .ref a.oD), (3, .ref a.oA), (2, .ref a.am), (1, .ref a.aX), (0, .ref b)]) hx hb dL_law_1028 hl (by decide) rfl (fun ls hl => ?_)
    refine lv_aload_n hx hb dL_law_1030 rfl (lv_at hl 5 rfl) ?_
    refine lw_thrown (s1 := S9) (t1 := S9) (k := 1) hC hP (by subst eS; rfl) hl.1 (Nat.le_of_ble_eq_true rfl) ⟨hc1, hs1⟩ dL_law_1031 ?_
    refine lv_iload hx hb dL_law_1034 (lv_at hl 1 rfl) ?_
    refine lv_icmp_eq (tgt := 1041) hx hb dL_law_1036 (by decide) (fun c_1036 => ?_) (fun c_1036 => ?_)
    rotate_left
    · exact absurd c_1036 (by decide)
    refine lv_iload hx hb dL_law_1041 (lv_at hl 1 rfl) ?_
    refine lv_if_ne (tgt := 1078) hx hb dL_law_1043 (by decide) (fun c_1043 => ?_) (fun c_1043 => ?_)
    rotate_left
    · exact absurd c_1043 (by decide)
    refine lv_goto (tgt := 2890) hx hb dL_law_1078 (by decide) ?_
    exact kk S9 H locs ls (LI.of (LI.mono hI (by omega)) (by subst eS; rfl) (by subst eS; rfl) (by subst eS; rfl) (by subst eS; rfl) (by subst eS; rfl) (by subst eS; rfl) (by subst eS; rfl) (by subst eS; rfl) (by subst eS; rfl) (by subst eS; rfl) (by subst eS; rfl) (by subst eS; rfl) (by subst eS; rfl) (by subst eS; rfl) (by subst eS; rfl)) hP hD hS (lv_sub hl [2, 3, 4, 5, 6, 7] rfl)

set_option maxRecDepth 100000 in
set_option maxHeartbeats 4000000 in
theorem case_13 {p : Program} {l : Launch} {e : Env} {s : State} {m : MethodId} {below : List Frame} {meth : Method} {cq : Code} {G : va_G} {cy : Nat → ClassId} {kS vS : Nat → Nat} {A : Nat → Prop} {a : LA} {b L q : Nat} {xs : Nat → Int32} {Q : State → Prop} {n0 cells slots : Nat} (hC : LC l p s m meth cq G cy kS vS A b L xs) (hq : 4 * q + 4 ≤ L) (hn0 : n0 < 1000000) (hc1 : cells + 1 ≤ room_1.cells) (hs1 : slots + 6 ≤ room_1.slots) (kk : LGo p l e s m below meth cq G cy A a b q Q (n0 + 300) (cells + 1) (slots + 6) 2890) : LGo p l e s m below meth cq G cy A a b q Q n0 cells slots 1081 := by
  intro s9 H locs ls hI hP hD hS hl
  obtain ⟨hx, hb, hml, hown, hts⟩ := id hC.S9
  have hL9 := hC.hL
  have hc0 : cells + 0 ≤ room_1.cells := Nat.le_of_succ_le hc1
  have hcn : cells ≤ room_1.cells := Nat.le_of_succ_le hc1
  have hs0 : slots + 0 ≤ room_1.slots := Nat.le_trans (Nat.le_add_right slots 6) hs1
  have hsn : slots ≤ room_1.slots := Nat.le_trans (Nat.le_add_right slots 6) hs1
  have ho := hI.1.1
  have hN0 := ho.1
  have hM0 := ho.2.1
  have hE0 := ho.2.2.1
  have hnx := hI.2.2.2.2.1
  have hct := hI.2.2.2.2.2.1
  by_cases hF : inI (xs (4 * q + 1)) (nI (nB s9.σ)) = true
  · obtain ⟨j, hj, e1⟩ := ix_of (by omega) hF
    by_cases hF2 : inI (xs (4 * q + 2)) (nI (nB s9.σ)) = true
    · obtain ⟨k9, hk9, e2⟩ := ix_of (by omega) hF2
      by_cases hwt : wet (vB s9.σ) j = true
      · by_cases hwk : wet (vB s9.σ) k9 = true
        · by_cases hz : (if hotter (vB s9.σ) (hB s9.σ) j k9 = true then (1 : Int32) else 0) = 0
          · obtain ⟨S9, eS⟩ : ∃ z : LwS, z = (LwS.mk s9.σ s9.υ s9.ς s9.hs s9.ep s9.fc s9.ml 0 s9.nx s9.ct s9.nb s9.n s9.LN s9.CM s9.ρ s9.x s9.x0 s9.f s9.gk s9.g1 s9.g2 s9.g3 s9.fb s9.fB s9.fA s9.fV s9.fP s9.fO s9.g (fun _ => vL (if hotter (vB s9.σ) (hB s9.σ) j k9 = true then 1 else 0)) s9.fd) := ⟨_, rfl⟩
            refine lv_aload_n hx hb dL_law_1081 rfl (lv_at hl 4 rfl) ?_
            refine lv_aload_n hx hb dL_law_1082 rfl (lv_at hl 5 rfl) ?_
            refine lv_iload hx hb dL_law_1083 (lv_at hl 0 rfl) ?_
            refine lv_iconst (v := 1) hx hb dL_law_1085 (by decide) ?_
            refine lv_iadd hx hb dL_law_1086 ?_
            refine m_sld (v := nI j) hx hb hC.hX hC.hbl hC.hbA hS (k := 4 * q + 1) (m_add rfl rfl) (by omega) hC.hL e1 dL_law_1087 ?_
            refine lv_aload_n hx hb dL_law_1088 rfl (lv_at hl 5 rfl) ?_
            refine lv_iload hx hb dL_law_1089 (lv_at hl 0 rfl) ?_
            refine lv_iconst (v := 2) hx hb dL_law_1091 (by decide) ?_
            refine lv_iadd hx hb dL_law_1092 ?_
            refine m_sld (v := nI k9) hx hb hC.hX hC.hbl hC.hbA hS (k := 4 * q + 2) (m_add rfl rfl) (by omega) hC.hL e2 dL_law_1093 ?_
            refine lv_aload_n hx hb dL_law_1094 rfl (lv_at hl 2 rfl) ?_
            refine lw_w (mc := 0) (ms := 0) (Wc := (LCh cy a s9 s9)) (Wn := (LCh cy a S9 s9)) hC (w_isWarmer_ok l G cy kS vS a.aX a.na a.tr a.sn s9.hs a.hi a.sc s9.ep s9.fc a.ob s9.σ j k9 a.oA s9.fo hI.1.1 hj hk9 hwt hwk) (vx_cwSW 4 hC.S9.2.2.2.2 gL_law_L_isWarmer rfl rfl rfl (by decide +kernel) ⟨Nat.le_of_ble_eq_true rfl, Nat.le_of_ble_eq_true rfl⟩) [0, 1, 24] rfl (by decide) (SameL.cons SameA.rf (SameL.cons SameA.rf (SameL.cons SameA.one SameL.nil))) (by subst eS; rfl) hP hD hS rfl hl.1 rfl (Nat.le_of_ble_eq_true rfl) ⟨hc0, hs0⟩ dL_law_1095 (fun H locs hP hD hS => ?_)
            refine lv_istore (lv' := [(6, .int 0), (5, .int (nI (4 * q))), (4, .ref a.oD), (3, .ref a.oA), (2, .ref a.am), (1, .ref a.aX), (0, .ref b)]) hx hb dL_law_1098 hl (by decide) rfl (fun ls hl => ?_)
            refine lv_aload_n hx hb dL_law_1100 rfl (lv_at hl 4 rfl) ?_
            refine lv_aload_n hx hb dL_law_1101 rfl (lv_at hl 6 rfl) ?_
            refine lv_iload hx hb dL_law_1102 (lv_at hl 1 rfl) ?_
            refine lv_iconst (v := 1) hx hb dL_law_1104 (by decide) ?_
            refine lv_iadd hx hb dL_law_1105 ?_
            refine m_sld (v := nI j) hx hb hC.hX hC.hbl hC.hbA hS (k := 4 * q + 1) (m_add rfl rfl) (by omega) hC.hL e1 dL_law_1106 ?_
            refine lv_aload_n hx hb dL_law_1107 rfl (lv_at hl 6 rfl) ?_
            refine lv_iload hx hb dL_law_1108 (lv_at hl 1 rfl) ?_
            refine lv_iconst (v := 2) hx hb dL_law_1110 (by decide) ?_
            refine lv_iadd hx hb dL_law_1111 ?_
            refine m_sld (v := nI k9) hx hb hC.hX hC.hbl hC.hbA hS (k := 4 * q + 2) (m_add rfl rfl) (by omega) hC.hL e2 dL_law_1112 ?_
            refine lw_m (s1 := S9) (t1 := s9) (Wn := (LCh cy a S9 S9)) hC (c_X8_isWarmer_ok l G cy a.am a.aS a.aBf a.aAs a.aSv a.aPa a.aOu a.aTx a.aCo s9.ct s9.nb s9.LN ((s9.x0).1) s9.CM s9.hs s9.th (bI (s9.x0).2) s9.ep s9.fc s9.σ j k9 hI.1.1 hj hk9 hI.1.bd hwt hwk) (cwV 2 hC.S9.2.2.2.2 gL_law_X8_isWarmer rfl rfl rfl (by decide +kernel) ⟨Nat.le_of_ble_eq_true rfl, Nat.le_of_ble_eq_true rfl⟩) [15, 16] rfl (by decide) (SameR.cons (SameR.cons SameR.nil)) (by subst eS; rfl) hP hD hS rfl hl.1 rfl (Nat.le_of_ble_eq_true rfl) ⟨hcn, hsn⟩ dL_law_1113 (fun H locs hP hD hS => ?_)
            refine lv_istore (lv' := [(7, .int (if hotter (vB s9.σ) (hB s9.σ) j k9 = true then 1 else 0)), (6, .int 0), (5, .int (nI (4 * q))), (4, .ref a.oD), (3, .ref a.oA), (2, .ref a.am), (1, .ref a.aX), (0, .ref b)]) hx hb dL_law_1116 hl (by decide) rfl (fun ls hl => ?_)
            refine lv_aload_n hx hb dL_law_1118 rfl (lv_at hl 5 rfl) ?_
            refine lw_thrown (s1 := S9) (t1 := S9) (k := 0) hC hP (by subst eS; rfl) hl.1 (Nat.le_of_ble_eq_true rfl) ⟨hcn, hsn⟩ dL_law_1119 ?_
            refine lv_iload hx hb dL_law_1122 (lv_at hl 1 rfl) ?_
            refine lv_icmp_eq (tgt := 1129) hx hb dL_law_1124 (by decide) (fun c_1124 => ?_) (fun c_1124 => ?_)
            rotate_left
            · exact absurd c_1124 (by decide)
            refine lv_iload hx hb dL_law_1129 (lv_at hl 1 rfl) ?_
            refine lv_if_ne (tgt := 1153) hx hb dL_law_1131 (by decide) (fun c_1131 => ?_) (fun c_1131 => ?_)
            · exact absurd c_1131 (by decide)
            refine lv_aload_n hx hb dL_law_1134 rfl (lv_at hl 4 rfl) ?_
            refine lv_iconst (v := 0) hx hb dL_law_1135 (by decide) ?_
            refine lw_ldL (s1 := S9) (t1 := S9) (x := vL (if hotter (vB s9.σ) (hB s9.σ) j k9 = true then 1 else 0)) hC hP (by subst eS; rfl) dL_law_1136 ?_
            refine lv_iload hx hb dL_law_1137 (lv_at hl 0 rfl) ?_
            refine lv_if_eq (tgt := 1146) hx hb dL_law_1139 (by decide) (fun c_1139 => ?_) (fun c_1139 => ?_)
            rotate_left
            · exact absurd hz c_1139
            refine lv_lconst (v := 0) hx hb dL_law_1146 (by decide) ?_
            refine m_lcmp0 hx hb (if_pos hz) dL_law_1147 ?_
            refine lv_if_eq (tgt := 1153) hx hb dL_law_1148 (by decide) (fun c_1148 => ?_) (fun c_1148 => ?_)
            rotate_left
            · exact absurd c_1148 (by decide)
            refine lv_goto (tgt := 2890) hx hb dL_law_1153 (by decide) ?_
            refine W.widen (k := cells + 1) (n := slots + 6) (by omega) (by omega) ?_
            exact kk S9 H locs ls (LI.of (LI.mono hI (by omega)) (by subst eS; rfl) (by subst eS; rfl) (by subst eS; rfl) (by subst eS; rfl) (by subst eS; rfl) (by subst eS; rfl) (by subst eS; rfl) (by subst eS; rfl) (by subst eS; rfl) (by subst eS; rfl) (by subst eS; rfl) (by subst eS; rfl) (by subst eS; rfl) (by subst eS; rfl) (by subst eS; rfl)) hP hD hS (lv_sub hl [2, 3, 4, 5, 6, 7] rfl)
          · obtain ⟨S9, eS⟩ : ∃ z : LwS, z = (LwS.mk s9.σ s9.υ s9.ς s9.hs s9.ep s9.fc s9.ml 0 s9.nx s9.ct s9.nb s9.n s9.LN s9.CM s9.ρ s9.x s9.x0 s9.f s9.gk s9.g1 s9.g2 s9.g3 s9.fb s9.fB s9.fA s9.fV s9.fP s9.fO s9.g (fun _ => vL (if hotter (vB s9.σ) (hB s9.σ) j k9 = true then 1 else 0)) s9.fd) := ⟨_, rfl⟩
            refine lv_aload_n hx hb dL_law_1081 rfl (lv_at hl 4 rfl) ?_
            refine lv_aload_n hx hb dL_law_1082 rfl (lv_at hl 5 rfl) ?_
            refine lv_iload hx hb dL_law_1083 (lv_at hl 0 rfl) ?_
            refine lv_iconst (v := 1) hx hb dL_law_1085 (by decide) ?_
            refine lv_iadd hx hb dL_law_1086 ?_
            refine m_sld (v := nI j) hx hb hC.hX hC.hbl hC.hbA hS (k := 4 * q + 1) (m_add rfl rfl) (by omega) hC.hL e1 dL_law_1087 ?_
            refine lv_aload_n hx hb dL_law_1088 rfl (lv_at hl 5 rfl) ?_
            refine lv_iload hx hb dL_law_1089 (lv_at hl 0 rfl) ?_
            refine lv_iconst (v := 2) hx hb dL_law_1091 (by decide) ?_
            refine lv_iadd hx hb dL_law_1092 ?_
            refine m_sld (v := nI k9) hx hb hC.hX hC.hbl hC.hbA hS (k := 4 * q + 2) (m_add rfl rfl) (by omega) hC.hL e2 dL_law_1093 ?_
            refine lv_aload_n hx hb dL_law_1094 rfl (lv_at hl 2 rfl) ?_
            refine lw_w (mc := 0) (ms := 0) (Wc := (LCh cy a s9 s9)) (Wn := (LCh cy a S9 s9)) hC (w_isWarmer_ok l G cy kS vS a.aX a.na a.tr a.sn s9.hs a.hi a.sc s9.ep s9.fc a.ob s9.σ j k9 a.oA s9.fo hI.1.1 hj hk9 hwt hwk) (vx_cwSW 4 hC.S9.2.2.2.2 gL_law_L_isWarmer rfl rfl rfl (by decide +kernel) ⟨Nat.le_of_ble_eq_true rfl, Nat.le_of_ble_eq_true rfl⟩) [0, 1, 24] rfl (by decide) (SameL.cons SameA.rf (SameL.cons SameA.rf (SameL.cons SameA.one SameL.nil))) (by subst eS; rfl) hP hD hS rfl hl.1 rfl (Nat.le_of_ble_eq_true rfl) ⟨hc0, hs0⟩ dL_law_1095 (fun H locs hP hD hS => ?_)
            refine lv_istore (lv' := [(6, .int 0), (5, .int (nI (4 * q))), (4, .ref a.oD), (3, .ref a.oA), (2, .ref a.am), (1, .ref a.aX), (0, .ref b)]) hx hb dL_law_1098 hl (by decide) rfl (fun ls hl => ?_)
            refine lv_aload_n hx hb dL_law_1100 rfl (lv_at hl 4 rfl) ?_
            refine lv_aload_n hx hb dL_law_1101 rfl (lv_at hl 6 rfl) ?_
            refine lv_iload hx hb dL_law_1102 (lv_at hl 1 rfl) ?_
            refine lv_iconst (v := 1) hx hb dL_law_1104 (by decide) ?_
            refine lv_iadd hx hb dL_law_1105 ?_
            refine m_sld (v := nI j) hx hb hC.hX hC.hbl hC.hbA hS (k := 4 * q + 1) (m_add rfl rfl) (by omega) hC.hL e1 dL_law_1106 ?_
            refine lv_aload_n hx hb dL_law_1107 rfl (lv_at hl 6 rfl) ?_
            refine lv_iload hx hb dL_law_1108 (lv_at hl 1 rfl) ?_
            refine lv_iconst (v := 2) hx hb dL_law_1110 (by decide) ?_
            refine lv_iadd hx hb dL_law_1111 ?_
            refine m_sld (v := nI k9) hx hb hC.hX hC.hbl hC.hbA hS (k := 4 * q + 2) (m_add rfl rfl) (by omega) hC.hL e2 dL_law_1112 ?_
            refine lw_m (s1 := S9) (t1 := s9) (Wn := (LCh cy a S9 S9)) hC (c_X8_isWarmer_ok l G cy a.am a.aS a.aBf a.aAs a.aSv a.aPa a.aOu a.aTx a.aCo s9.ct s9.nb s9.LN ((s9.x0).1) s9.CM s9.hs s9.th (bI (s9.x0).2) s9.ep s9.fc s9.σ j k9 hI.1.1 hj hk9 hI.1.bd hwt hwk) (cwV 2 hC.S9.2.2.2.2 gL_law_X8_isWarmer rfl rfl rfl (by decide +kernel) ⟨Nat.le_of_ble_eq_true rfl, Nat.le_of_ble_eq_true rfl⟩) [15, 16] rfl (by decide) (SameR.cons (SameR.cons SameR.nil)) (by subst eS; rfl) hP hD hS rfl hl.1 rfl (Nat.le_of_ble_eq_true rfl) ⟨hcn, hsn⟩ dL_law_1113 (fun H locs hP hD hS => ?_)
            refine lv_istore (lv' := [(7, .int (if hotter (vB s9.σ) (hB s9.σ) j k9 = true then 1 else 0)), (6, .int 0), (5, .int (nI (4 * q))), (4, .ref a.oD), (3, .ref a.oA), (2, .ref a.am), (1, .ref a.aX), (0, .ref b)]) hx hb dL_law_1116 hl (by decide) rfl (fun ls hl => ?_)
            refine lv_aload_n hx hb dL_law_1118 rfl (lv_at hl 5 rfl) ?_
            refine lw_thrown (s1 := S9) (t1 := S9) (k := 0) hC hP (by subst eS; rfl) hl.1 (Nat.le_of_ble_eq_true rfl) ⟨hcn, hsn⟩ dL_law_1119 ?_
            refine lv_iload hx hb dL_law_1122 (lv_at hl 1 rfl) ?_
            refine lv_icmp_eq (tgt := 1129) hx hb dL_law_1124 (by decide) (fun c_1124 => ?_) (fun c_1124 => ?_)
            rotate_left
            · exact absurd c_1124 (by decide)
            refine lv_iload hx hb dL_law_1129 (lv_at hl 1 rfl) ?_
            refine lv_if_ne (tgt := 1153) hx hb dL_law_1131 (by decide) (fun c_1131 => ?_) (fun c_1131 => ?_)
            · exact absurd c_1131 (by decide)
            refine lv_aload_n hx hb dL_law_1134 rfl (lv_at hl 4 rfl) ?_
            refine lv_iconst (v := 0) hx hb dL_law_1135 (by decide) ?_
            refine lw_ldL (s1 := S9) (t1 := S9) (x := vL (if hotter (vB s9.σ) (hB s9.σ) j k9 = true then 1 else 0)) hC hP (by subst eS; rfl) dL_law_1136 ?_
            refine lv_iload hx hb dL_law_1137 (lv_at hl 0 rfl) ?_
            refine lv_if_eq (tgt := 1146) hx hb dL_law_1139 (by decide) (fun c_1139 => ?_) (fun c_1139 => ?_)
            · exact absurd c_1139 hz
            refine lv_lconst (v := 1) hx hb dL_law_1142 (by decide) ?_
            refine lv_goto (tgt := 1147) hx hb dL_law_1143 (by decide) ?_
            refine m_lcmp0 hx hb (if_neg hz) dL_law_1147 ?_
            refine lv_if_eq (tgt := 1153) hx hb dL_law_1148 (by decide) (fun c_1148 => ?_) (fun c_1148 => ?_)
            rotate_left
            · exact absurd c_1148 (by decide)
            refine lv_goto (tgt := 2890) hx hb dL_law_1153 (by decide) ?_
            refine W.widen (k := cells + 1) (n := slots + 6) (by omega) (by omega) ?_
            exact kk S9 H locs ls (LI.of (LI.mono hI (by omega)) (by subst eS; rfl) (by subst eS; rfl) (by subst eS; rfl) (by subst eS; rfl) (by subst eS; rfl) (by subst eS; rfl) (by subst eS; rfl) (by subst eS; rfl) (by subst eS; rfl) (by subst eS; rfl) (by subst eS; rfl) (by subst eS; rfl) (by subst eS; rfl) (by subst eS; rfl) (by subst eS; rfl)) hP hD hS (lv_sub hl [2, 3, 4, 5, 6, 7] rfl)
        · obtain ⟨S9, eS⟩ : ∃ z : LwS, z = (LwS.mk s9.σ s9.υ s9.ς s9.hs s9.ep s9.fc s9.ml 2 s9.nx s9.ct s9.nb s9.n s9.LN s9.CM s9.ρ s9.x s9.x0 s9.f s9.gk s9.g1 s9.g2 s9.g3 s9.fb s9.fB s9.fA s9.fV s9.fP s9.fO s9.g s9.fo s9.fd) := ⟨_, rfl⟩
          refine lv_aload_n hx hb dL_law_1081 rfl (lv_at hl 4 rfl) ?_
          refine lv_aload_n hx hb dL_law_1082 rfl (lv_at hl 5 rfl) ?_
          refine lv_iload hx hb dL_law_1083 (lv_at hl 0 rfl) ?_
          refine lv_iconst (v := 1) hx hb dL_law_1085 (by decide) ?_
          refine lv_iadd hx hb dL_law_1086 ?_
          refine m_sld (v := nI j) hx hb hC.hX hC.hbl hC.hbA hS (k := 4 * q + 1) (m_add rfl rfl) (by omega) hC.hL e1 dL_law_1087 ?_
          refine lv_aload_n hx hb dL_law_1088 rfl (lv_at hl 5 rfl) ?_
          refine lv_iload hx hb dL_law_1089 (lv_at hl 0 rfl) ?_
          refine lv_iconst (v := 2) hx hb dL_law_1091 (by decide) ?_
          refine lv_iadd hx hb dL_law_1092 ?_
          refine m_sld (v := nI k9) hx hb hC.hX hC.hbl hC.hbA hS (k := 4 * q + 2) (m_add rfl rfl) (by omega) hC.hL e2 dL_law_1093 ?_
          refine lv_aload_n hx hb dL_law_1094 rfl (lv_at hl 2 rfl) ?_
          refine lw_w (mc := 1) (ms := 6) (Wc := (LCh cy a s9 s9)) (Wn := (LCh cy a S9 s9)) hC (w_isWarmer_4 l G cy kS vS a.aX a.na a.tr a.sn s9.hs a.hi a.sc s9.ep s9.fc a.ob s9.σ j k9 a.oA s9.fo hC.hl9 hI.1.1 hj hk9 hwt hwk) (vx_cwSW 4 hC.S9.2.2.2.2 gL_law_L_isWarmer rfl rfl rfl (by decide +kernel) ⟨Nat.le_of_ble_eq_true rfl, Nat.le_of_ble_eq_true rfl⟩) [0, 1, 24] rfl (by decide) (SameL.cons SameA.rf (SameL.cons SameA.rf (SameL.cons SameA.rf SameL.nil))) (by subst eS; rfl) hP hD hS rfl hl.1 rfl (Nat.le_of_ble_eq_true rfl) ⟨hc1, hs1⟩ dL_law_1095 (fun H locs hP hD hS => ?_)
          refine lv_istore (lv' := [(6, .int 2), (5, .int (nI (4 * q))), (4, .ref a.oD), (3, .ref a.oA), (2, .ref a.am), (1, .ref a.aX), (0, .ref b)]) hx hb dL_law_1098 hl (by decide) rfl (fun ls hl => ?_)
          refine lv_aload_n hx hb dL_law_1100 rfl (lv_at hl 4 rfl) ?_
          refine lv_aload_n hx hb dL_law_1101 rfl (lv_at hl 6 rfl) ?_
          refine lv_iload hx hb dL_law_1102 (lv_at hl 1 rfl) ?_
          refine lv_iconst (v := 1) hx hb dL_law_1104 (by decide) ?_
          refine lv_iadd hx hb dL_law_1105 ?_
          refine m_sld (v := nI j) hx hb hC.hX hC.hbl hC.hbA hS (k := 4 * q + 1) (m_add rfl rfl) (by omega) hC.hL e1 dL_law_1106 ?_
          refine lv_aload_n hx hb dL_law_1107 rfl (lv_at hl 6 rfl) ?_
          refine lv_iload hx hb dL_law_1108 (lv_at hl 1 rfl) ?_
          refine lv_iconst (v := 2) hx hb dL_law_1110 (by decide) ?_
          refine lv_iadd hx hb dL_law_1111 ?_
          refine m_sld (v := nI k9) hx hb hC.hX hC.hbl hC.hbA hS (k := 4 * q + 2) (m_add rfl rfl) (by omega) hC.hL e2 dL_law_1112 ?_
          refine lw_m (s1 := S9) (t1 := s9) (Wn := (LCh cy a S9 S9)) hC (c_X8_isWarmer_no4 l G cy a.am a.aS a.aBf a.aAs a.aSv a.aPa a.aOu a.aTx a.aCo s9.ct s9.nb s9.LN ((s9.x0).1) s9.CM s9.hs s9.th (bI (s9.x0).2) s9.ep s9.fc s9.σ j k9 hI.1.1 hj hk9 hwt hwk) (cwV 2 hC.S9.2.2.2.2 gL_law_X8_isWarmer rfl rfl rfl (by decide +kernel) ⟨Nat.le_of_ble_eq_true rfl, Nat.le_of_ble_eq_true rfl⟩) [15, 16] rfl (by decide) (SameR.cons (SameR.cons SameR.nil)) (by subst eS; rfl) hP hD hS rfl hl.1 rfl (Nat.le_of_ble_eq_true rfl) ⟨hc1, hs1⟩ dL_law_1113 (fun H locs hP hD hS => ?_)
          refine lv_istore (lv' := [(7, .int 0), (6, .int 2), (5, .int (nI (4 * q))), (4, .ref a.oD), (3, .ref a.oA), (2, .ref a.am), (1, .ref a.aX), (0, .ref b)]) hx hb dL_law_1116 hl (by decide) rfl (fun ls hl => ?_)
          refine lv_aload_n hx hb dL_law_1118 rfl (lv_at hl 5 rfl) ?_
          refine lw_thrown (s1 := S9) (t1 := S9) (k := 2) hC hP (by subst eS; rfl) hl.1 (Nat.le_of_ble_eq_true rfl) ⟨hc1, hs1⟩ dL_law_1119 ?_
          refine lv_iload hx hb dL_law_1122 (lv_at hl 1 rfl) ?_
          refine lv_icmp_eq (tgt := 1129) hx hb dL_law_1124 (by decide) (fun c_1124 => ?_) (fun c_1124 => ?_)
          rotate_left
          · exact absurd c_1124 (by decide)
          refine lv_iload hx hb dL_law_1129 (lv_at hl 1 rfl) ?_
          refine lv_if_ne (tgt := 1153) hx hb dL_law_1131 (by decide) (fun c_1131 => ?_) (fun c_1131 => ?_)
          rotate_left
          · exact absurd c_1131 (by decide)
          refine lv_goto (tgt := 2890) hx hb dL_law_1153 (by decide) ?_
          exact kk S9 H locs ls (LI.of (LI.mono hI (by omega)) (by subst eS; rfl) (by subst eS; rfl) (by subst eS; rfl) (by subst eS; rfl) (by subst eS; rfl) (by subst eS; rfl) (by subst eS; rfl) (by subst eS; rfl) (by subst eS; rfl) (by subst eS; rfl) (by subst eS; rfl) (by subst eS; rfl) (by subst eS; rfl) (by subst eS; rfl) (by subst eS; rfl)) hP hD hS (lv_sub hl [2, 3, 4, 5, 6, 7] rfl)
      · obtain ⟨S9, eS⟩ : ∃ z : LwS, z = (LwS.mk s9.σ s9.υ s9.ς s9.hs s9.ep s9.fc s9.ml 2 s9.nx s9.ct s9.nb s9.n s9.LN s9.CM s9.ρ s9.x s9.x0 s9.f s9.gk s9.g1 s9.g2 s9.g3 s9.fb s9.fB s9.fA s9.fV s9.fP s9.fO s9.g s9.fo s9.fd) := ⟨_, rfl⟩
        refine lv_aload_n hx hb dL_law_1081 rfl (lv_at hl 4 rfl) ?_
        refine lv_aload_n hx hb dL_law_1082 rfl (lv_at hl 5 rfl) ?_
        refine lv_iload hx hb dL_law_1083 (lv_at hl 0 rfl) ?_
        refine lv_iconst (v := 1) hx hb dL_law_1085 (by decide) ?_
        refine lv_iadd hx hb dL_law_1086 ?_
        refine m_sld (v := nI j) hx hb hC.hX hC.hbl hC.hbA hS (k := 4 * q + 1) (m_add rfl rfl) (by omega) hC.hL e1 dL_law_1087 ?_
        refine lv_aload_n hx hb dL_law_1088 rfl (lv_at hl 5 rfl) ?_
        refine lv_iload hx hb dL_law_1089 (lv_at hl 0 rfl) ?_
        refine lv_iconst (v := 2) hx hb dL_law_1091 (by decide) ?_
        refine lv_iadd hx hb dL_law_1092 ?_
        refine m_sld (v := nI k9) hx hb hC.hX hC.hbl hC.hbA hS (k := 4 * q + 2) (m_add rfl rfl) (by omega) hC.hL e2 dL_law_1093 ?_
        refine lv_aload_n hx hb dL_law_1094 rfl (lv_at hl 2 rfl) ?_
        refine lw_w (mc := 1) (ms := 6) (Wc := (LCh cy a s9 s9)) (Wn := (LCh cy a S9 s9)) hC (w_isWarmer_3 l G cy kS vS a.aX a.na a.tr a.sn s9.hs a.hi a.sc s9.ep s9.fc a.ob s9.σ j k9 a.oA s9.fo hC.hl9 hI.1.1 hj hk9 hwt) (vx_cwSW 4 hC.S9.2.2.2.2 gL_law_L_isWarmer rfl rfl rfl (by decide +kernel) ⟨Nat.le_of_ble_eq_true rfl, Nat.le_of_ble_eq_true rfl⟩) [0, 1, 24] rfl (by decide) (SameL.cons SameA.rf (SameL.cons SameA.rf (SameL.cons SameA.rf SameL.nil))) (by subst eS; rfl) hP hD hS rfl hl.1 rfl (Nat.le_of_ble_eq_true rfl) ⟨hc1, hs1⟩ dL_law_1095 (fun H locs hP hD hS => ?_)
        refine lv_istore (lv' := [(6, .int 2), (5, .int (nI (4 * q))), (4, .ref a.oD), (3, .ref a.oA), (2, .ref a.am), (1, .ref a.aX), (0, .ref b)]) hx hb dL_law_1098 hl (by decide) rfl (fun ls hl => ?_)
        refine lv_aload_n hx hb dL_law_1100 rfl (lv_at hl 4 rfl) ?_
        refine lv_aload_n hx hb dL_law_1101 rfl (lv_at hl 6 rfl) ?_
        refine lv_iload hx hb dL_law_1102 (lv_at hl 1 rfl) ?_
        refine lv_iconst (v := 1) hx hb dL_law_1104 (by decide) ?_
        refine lv_iadd hx hb dL_law_1105 ?_
        refine m_sld (v := nI j) hx hb hC.hX hC.hbl hC.hbA hS (k := 4 * q + 1) (m_add rfl rfl) (by omega) hC.hL e1 dL_law_1106 ?_
        refine lv_aload_n hx hb dL_law_1107 rfl (lv_at hl 6 rfl) ?_
        refine lv_iload hx hb dL_law_1108 (lv_at hl 1 rfl) ?_
        refine lv_iconst (v := 2) hx hb dL_law_1110 (by decide) ?_
        refine lv_iadd hx hb dL_law_1111 ?_
        refine m_sld (v := nI k9) hx hb hC.hX hC.hbl hC.hbA hS (k := 4 * q + 2) (m_add rfl rfl) (by omega) hC.hL e2 dL_law_1112 ?_
        refine lw_m (s1 := S9) (t1 := s9) (Wn := (LCh cy a S9 S9)) hC (c_X8_isWarmer_no3 l G cy a.am a.aS a.aBf a.aAs a.aSv a.aPa a.aOu a.aTx a.aCo s9.ct s9.nb s9.LN ((s9.x0).1) s9.CM s9.hs s9.th (bI (s9.x0).2) s9.ep s9.fc s9.σ j k9 hI.1.1 hj hk9 hwt) (cwV 2 hC.S9.2.2.2.2 gL_law_X8_isWarmer rfl rfl rfl (by decide +kernel) ⟨Nat.le_of_ble_eq_true rfl, Nat.le_of_ble_eq_true rfl⟩) [15, 16] rfl (by decide) (SameR.cons (SameR.cons SameR.nil)) (by subst eS; rfl) hP hD hS rfl hl.1 rfl (Nat.le_of_ble_eq_true rfl) ⟨hc1, hs1⟩ dL_law_1113 (fun H locs hP hD hS => ?_)
        refine lv_istore (lv' := [(7, .int 0), (6, .int 2), (5, .int (nI (4 * q))), (4, .ref a.oD), (3, .ref a.oA), (2, .ref a.am), (1, .ref a.aX), (0, .ref b)]) hx hb dL_law_1116 hl (by decide) rfl (fun ls hl => ?_)
        refine lv_aload_n hx hb dL_law_1118 rfl (lv_at hl 5 rfl) ?_
        refine lw_thrown (s1 := S9) (t1 := S9) (k := 2) hC hP (by subst eS; rfl) hl.1 (Nat.le_of_ble_eq_true rfl) ⟨hc1, hs1⟩ dL_law_1119 ?_
        refine lv_iload hx hb dL_law_1122 (lv_at hl 1 rfl) ?_
        refine lv_icmp_eq (tgt := 1129) hx hb dL_law_1124 (by decide) (fun c_1124 => ?_) (fun c_1124 => ?_)
        rotate_left
        · exact absurd c_1124 (by decide)
        refine lv_iload hx hb dL_law_1129 (lv_at hl 1 rfl) ?_
        refine lv_if_ne (tgt := 1153) hx hb dL_law_1131 (by decide) (fun c_1131 => ?_) (fun c_1131 => ?_)
        rotate_left
        · exact absurd c_1131 (by decide)
        refine lv_goto (tgt := 2890) hx hb dL_law_1153 (by decide) ?_
        exact kk S9 H locs ls (LI.of (LI.mono hI (by omega)) (by subst eS; rfl) (by subst eS; rfl) (by subst eS; rfl) (by subst eS; rfl) (by subst eS; rfl) (by subst eS; rfl) (by subst eS; rfl) (by subst eS; rfl) (by subst eS; rfl) (by subst eS; rfl) (by subst eS; rfl) (by subst eS; rfl) (by subst eS; rfl) (by subst eS; rfl) (by subst eS; rfl)) hP hD hS (lv_sub hl [2, 3, 4, 5, 6, 7] rfl)
    · obtain ⟨S9, eS⟩ : ∃ z : LwS, z = (LwS.mk s9.σ s9.υ s9.ς s9.hs s9.ep s9.fc s9.ml 1 s9.nx s9.ct s9.nb s9.n s9.LN s9.CM s9.ρ s9.x s9.x0 s9.f s9.gk s9.g1 s9.g2 s9.g3 s9.fb s9.fB s9.fA s9.fV s9.fP s9.fO s9.g s9.fo s9.fd) := ⟨_, rfl⟩
      refine lv_aload_n hx hb dL_law_1081 rfl (lv_at hl 4 rfl) ?_
      refine lv_aload_n hx hb dL_law_1082 rfl (lv_at hl 5 rfl) ?_
      refine lv_iload hx hb dL_law_1083 (lv_at hl 0 rfl) ?_
      refine lv_iconst (v := 1) hx hb dL_law_1085 (by decide) ?_
      refine lv_iadd hx hb dL_law_1086 ?_
      refine m_sld (v := nI j) hx hb hC.hX hC.hbl hC.hbA hS (k := 4 * q + 1) (m_add rfl rfl) (by omega) hC.hL e1 dL_law_1087 ?_
      refine lv_aload_n hx hb dL_law_1088 rfl (lv_at hl 5 rfl) ?_
      refine lv_iload hx hb dL_law_1089 (lv_at hl 0 rfl) ?_
      refine lv_iconst (v := 2) hx hb dL_law_1091 (by decide) ?_
      refine lv_iadd hx hb dL_law_1092 ?_
      refine m_sld (v := xs (4 * q + 2)) hx hb hC.hX hC.hbl hC.hbA hS (k := 4 * q + 2) (m_add rfl rfl) (by omega) hC.hL rfl dL_law_1093 ?_
      refine lv_aload_n hx hb dL_law_1094 rfl (lv_at hl 2 rfl) ?_
      refine lw_w (mc := 1) (ms := 6) (Wc := (LCh cy a s9 s9)) (Wn := (LCh cy a S9 s9)) hC (w_isWarmer_2 l G cy kS vS a.aX a.na a.tr a.sn s9.hs a.hi a.sc s9.ep s9.fc a.ob s9.σ j (xs (4 * q + 2)) a.oA s9.fo hC.hl9 hI.1.1 hj hF2) (vx_cwSW 4 hC.S9.2.2.2.2 gL_law_L_isWarmer rfl rfl rfl (by decide +kernel) ⟨Nat.le_of_ble_eq_true rfl, Nat.le_of_ble_eq_true rfl⟩) [0, 1, 24] rfl (by decide) (SameL.cons SameA.rf (SameL.cons SameA.rf (SameL.cons SameA.rf SameL.nil))) (by subst eS; rfl) hP hD hS rfl hl.1 rfl (Nat.le_of_ble_eq_true rfl) ⟨hc1, hs1⟩ dL_law_1095 (fun H locs hP hD hS => ?_)
      refine lv_istore (lv' := [(6, .int 1), (5, .int (nI (4 * q))), (4, .ref a.oD), (3, .ref a.oA), (2, .ref a.am), (1, .ref a.aX), (0, .ref b)]) hx hb dL_law_1098 hl (by decide) rfl (fun ls hl => ?_)
      refine lv_aload_n hx hb dL_law_1100 rfl (lv_at hl 4 rfl) ?_
      refine lv_aload_n hx hb dL_law_1101 rfl (lv_at hl 6 rfl) ?_
      refine lv_iload hx hb dL_law_1102 (lv_at hl 1 rfl) ?_
      refine lv_iconst (v := 1) hx hb dL_law_1104 (by decide) ?_
      refine lv_iadd hx hb dL_law_1105 ?_
      refine m_sld (v := nI j) hx hb hC.hX hC.hbl hC.hbA hS (k := 4 * q + 1) (m_add rfl rfl) (by omega) hC.hL e1 dL_law_1106 ?_
      refine lv_aload_n hx hb dL_law_1107 rfl (lv_at hl 6 rfl) ?_
      refine lv_iload hx hb dL_law_1108 (lv_at hl 1 rfl) ?_
      refine lv_iconst (v := 2) hx hb dL_law_1110 (by decide) ?_
      refine lv_iadd hx hb dL_law_1111 ?_
      refine m_sld (v := xs (4 * q + 2)) hx hb hC.hX hC.hbl hC.hbA hS (k := 4 * q + 2) (m_add rfl rfl) (by omega) hC.hL rfl dL_law_1112 ?_
      refine lw_m (s1 := S9) (t1 := s9) (Wn := (LCh cy a S9 S9)) hC (c_X8_isWarmer_no2 l G cy a.am a.aS a.aBf a.aAs a.aSv a.aPa a.aOu a.aTx a.aCo s9.ct s9.nb s9.LN ((s9.x0).1) s9.CM s9.hs s9.th (bI (s9.x0).2) s9.ep s9.fc s9.σ j (xs (4 * q + 2)) hI.1.1 hj hF2) (cwV 2 hC.S9.2.2.2.2 gL_law_X8_isWarmer rfl rfl rfl (by decide +kernel) ⟨Nat.le_of_ble_eq_true rfl, Nat.le_of_ble_eq_true rfl⟩) [15, 16] rfl (by decide) (SameR.cons (SameR.cons SameR.nil)) (by subst eS; rfl) hP hD hS rfl hl.1 rfl (Nat.le_of_ble_eq_true rfl) ⟨hc1, hs1⟩ dL_law_1113 (fun H locs hP hD hS => ?_)
      refine lv_istore (lv' := [(7, .int 0), (6, .int 1), (5, .int (nI (4 * q))), (4, .ref a.oD), (3, .ref a.oA), (2, .ref a.am), (1, .ref a.aX), (0, .ref b)]) hx hb dL_law_1116 hl (by decide) rfl (fun ls hl => ?_)
      refine lv_aload_n hx hb dL_law_1118 rfl (lv_at hl 5 rfl) ?_
      refine lw_thrown (s1 := S9) (t1 := S9) (k := 1) hC hP (by subst eS; rfl) hl.1 (Nat.le_of_ble_eq_true rfl) ⟨hc1, hs1⟩ dL_law_1119 ?_
      refine lv_iload hx hb dL_law_1122 (lv_at hl 1 rfl) ?_
      refine lv_icmp_eq (tgt := 1129) hx hb dL_law_1124 (by decide) (fun c_1124 => ?_) (fun c_1124 => ?_)
      rotate_left
      · exact absurd c_1124 (by decide)
      refine lv_iload hx hb dL_law_1129 (lv_at hl 1 rfl) ?_
      refine lv_if_ne (tgt := 1153) hx hb dL_law_1131 (by decide) (fun c_1131 => ?_) (fun c_1131 => ?_)
      rotate_left
      · exact absurd c_1131 (by decide)
      refine lv_goto (tgt := 2890) hx hb dL_law_1153 (by decide) ?_
      exact kk S9 H locs ls (LI.of (LI.mono hI (by omega)) (by subst eS; rfl) (by subst eS; rfl) (by subst eS; rfl) (by subst eS; rfl) (by subst eS; rfl) (by subst eS; rfl) (by subst eS; rfl) (by subst eS; rfl) (by subst eS; rfl) (by subst eS; rfl) (by subst eS; rfl) (by subst eS; rfl) (by subst eS; rfl) (by subst eS; rfl) (by subst eS; rfl)) hP hD hS (lv_sub hl [2, 3, 4, 5, 6, 7] rfl)
  · obtain ⟨S9, eS⟩ : ∃ z : LwS, z = (LwS.mk s9.σ s9.υ s9.ς s9.hs s9.ep s9.fc s9.ml 1 s9.nx s9.ct s9.nb s9.n s9.LN s9.CM s9.ρ s9.x s9.x0 s9.f s9.gk s9.g1 s9.g2 s9.g3 s9.fb s9.fB s9.fA s9.fV s9.fP s9.fO s9.g s9.fo s9.fd) := ⟨_, rfl⟩
    refine lv_aload_n hx hb dL_law_1081 rfl (lv_at hl 4 rfl) ?_
    refine lv_aload_n hx hb dL_law_1082 rfl (lv_at hl 5 rfl) ?_
    refine lv_iload hx hb dL_law_1083 (lv_at hl 0 rfl) ?_
    refine lv_iconst (v := 1) hx hb dL_law_1085 (by decide) ?_
    refine lv_iadd hx hb dL_law_1086 ?_
    refine m_sld (v := xs (4 * q + 1)) hx hb hC.hX hC.hbl hC.hbA hS (k := 4 * q + 1) (m_add rfl rfl) (by omega) hC.hL rfl dL_law_1087 ?_
    refine lv_aload_n hx hb dL_law_1088 rfl (lv_at hl 5 rfl) ?_
    refine lv_iload hx hb dL_law_1089 (lv_at hl 0 rfl) ?_
    refine lv_iconst (v := 2) hx hb dL_law_1091 (by decide) ?_
    refine lv_iadd hx hb dL_law_1092 ?_
    refine m_sld (v := xs (4 * q + 2)) hx hb hC.hX hC.hbl hC.hbA hS (k := 4 * q + 2) (m_add rfl rfl) (by omega) hC.hL rfl dL_law_1093 ?_
    refine lv_aload_n hx hb dL_law_1094 rfl (lv_at hl 2 rfl) ?_
    refine lw_w (mc := 1) (ms := 6) (Wc := (LCh cy a s9 s9)) (Wn := (LCh cy a S9 s9)) hC (w_isWarmer_1 l G cy kS vS a.aX a.na a.tr a.sn s9.hs a.hi a.sc s9.ep s9.fc a.ob s9.σ (xs (4 * q + 1)) (xs (4 * q + 2)) a.oA s9.fo hC.hl9 hI.1.1 hF) (vx_cwSW 4 hC.S9.2.2.2.2 gL_law_L_isWarmer rfl rfl rfl (by decide +kernel) ⟨Nat.le_of_ble_eq_true rfl, Nat.le_of_ble_eq_true rfl⟩) [0, 1, 24] rfl (by decide) (SameL.cons SameA.rf (SameL.cons SameA.rf (SameL.cons SameA.rf SameL.nil))) (by subst eS; rfl) hP hD hS rfl hl.1 rfl (Nat.le_of_ble_eq_true rfl) ⟨hc1, hs1⟩ dL_law_1095 (fun H locs hP hD hS => ?_)
    refine lv_istore (lv' := [(6, .int 1), (5, .int (nI (4 * q))), (4, .ref a.oD), (3, .ref a.oA), (2, .ref a.am), (1, .ref a.aX), (0, .ref b)]) hx hb dL_law_1098 hl (by decide) rfl (fun ls hl => ?_)
    refine lv_aload_n hx hb dL_law_1100 rfl (lv_at hl 4 rfl) ?_
    refine lv_aload_n hx hb dL_law_1101 rfl (lv_at hl 6 rfl) ?_
    refine lv_iload hx hb dL_law_1102 (lv_at hl 1 rfl) ?_
    refine lv_iconst (v := 1) hx hb dL_law_1104 (by decide) ?_
    refine lv_iadd hx hb dL_law_1105 ?_
    refine m_sld (v := xs (4 * q + 1)) hx hb hC.hX hC.hbl hC.hbA hS (k := 4 * q + 1) (m_add rfl rfl) (by omega) hC.hL rfl dL_law_1106 ?_
    refine lv_aload_n hx hb dL_law_1107 rfl (lv_at hl 6 rfl) ?_
    refine lv_iload hx hb dL_law_1108 (lv_at hl 1 rfl) ?_
    refine lv_iconst (v := 2) hx hb dL_law_1110 (by decide) ?_
    refine lv_iadd hx hb dL_law_1111 ?_
    refine m_sld (v := xs (4 * q + 2)) hx hb hC.hX hC.hbl hC.hbA hS (k := 4 * q + 2) (m_add rfl rfl) (by omega) hC.hL rfl dL_law_1112 ?_
    refine lw_m (s1 := S9) (t1 := s9) (Wn := (LCh cy a S9 S9)) hC (c_X8_isWarmer_no1 l G cy a.am a.aS a.aBf a.aAs a.aSv a.aPa a.aOu a.aTx a.aCo s9.ct s9.nb s9.LN ((s9.x0).1) s9.CM s9.hs s9.th (bI (s9.x0).2) s9.ep s9.fc s9.σ (xs (4 * q + 1)) (xs (4 * q + 2)) hI.1.1 hF) (cwV 2 hC.S9.2.2.2.2 gL_law_X8_isWarmer rfl rfl rfl (by decide +kernel) ⟨Nat.le_of_ble_eq_true rfl, Nat.le_of_ble_eq_true rfl⟩) [15, 16] rfl (by decide) (SameR.cons (SameR.cons SameR.nil)) (by subst eS; rfl) hP hD hS rfl hl.1 rfl (Nat.le_of_ble_eq_true rfl) ⟨hc1, hs1⟩ dL_law_1113 (fun H locs hP hD hS => ?_)
    refine lv_istore (lv' := [(7, .int 0), (6, .int 1), (5, .int (nI (4 * q))), (4, .ref a.oD), (3, .ref a.oA), (2, .ref a.am), (1, .ref a.aX), (0, .ref b)]) hx hb dL_law_1116 hl (by decide) rfl (fun ls hl => ?_)
    refine lv_aload_n hx hb dL_law_1118 rfl (lv_at hl 5 rfl) ?_
    refine lw_thrown (s1 := S9) (t1 := S9) (k := 1) hC hP (by subst eS; rfl) hl.1 (Nat.le_of_ble_eq_true rfl) ⟨hc1, hs1⟩ dL_law_1119 ?_
    refine lv_iload hx hb dL_law_1122 (lv_at hl 1 rfl) ?_
    refine lv_icmp_eq (tgt := 1129) hx hb dL_law_1124 (by decide) (fun c_1124 => ?_) (fun c_1124 => ?_)
    rotate_left
    · exact absurd c_1124 (by decide)
    refine lv_iload hx hb dL_law_1129 (lv_at hl 1 rfl) ?_
    refine lv_if_ne (tgt := 1153) hx hb dL_law_1131 (by decide) (fun c_1131 => ?_) (fun c_1131 => ?_)
    rotate_left
    · exact absurd c_1131 (by decide)
    refine lv_goto (tgt := 2890) hx hb dL_law_1153 (by decide) ?_
    exact kk S9 H locs ls (LI.of (LI.mono hI (by omega)) (by subst eS; rfl) (by subst eS; rfl) (by subst eS; rfl) (by subst eS; rfl) (by subst eS; rfl) (by subst eS; rfl) (by subst eS; rfl) (by subst eS; rfl) (by subst eS; rfl) (by subst eS; rfl) (by subst eS; rfl) (by subst eS; rfl) (by subst eS; rfl) (by subst eS; rfl) (by subst eS; rfl)) hP hD hS (lv_sub hl [2, 3, 4, 5, 6, 7] rfl)
