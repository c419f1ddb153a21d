/-! the cases of the law, 0 -/
set_option maxRecDepth 100000 in
set_option maxHeartbeats 4000000 in
theorem case_0 {p : Program} {l : Launch} {e : Env} {s : State} {m : MethodId} {below : List Frame} {meth : Method} {cq : Code} {G : va_G} {cy : Nat → ClassId} {kS vS : Nat → Nat} {A : Nat → Prop} {a : LA} {b L q : Nat} {xs : Nat → Int32} {Q : State → Prop} {n0 cells slots : Nat} (hC : LC l p s m meth cq G cy kS vS A b L xs) (hq : 4 * q + 4 ≤ L) (hn0 : n0 < 1000000) (hc1 : cells + 1 ≤ room_1.cells) (hs1 : slots + 6 ≤ room_1.slots) (kk : LGo p l e s m below meth cq G cy A a b q Q (n0 + 300) (cells + 1) (slots + 6) 2890) : LGo p l e s m below meth cq G cy A a b q Q n0 cells slots 280 := by
  intro s9 H locs ls hI hP hD hS hl
  obtain ⟨hx, hb, hml, hown, hts⟩ := id hC.S9
  have hL9 := hC.hL
  have hc0 : cells + 0 ≤ room_1.cells := Nat.le_of_succ_le hc1
  have hcn : cells ≤ room_1.cells := Nat.le_of_succ_le hc1
  have hs0 : slots + 0 ≤ room_1.slots := Nat.le_trans (Nat.le_add_right slots 6) hs1
  have hsn : slots ≤ room_1.slots := Nat.le_trans (Nat.le_add_right slots 6) hs1
  have ho := hI.1.1
  have hN0 := ho.1
  have hM0 := ho.2.1
  have hE0 := ho.2.2.1
  have hnx := hI.2.2.2.2.1
  have hct := hI.2.2.2.2.2.1
  by_cases h5 : nB s9.σ < 5
  · obtain ⟨z1, z2, z3⟩ := hI.1.2.2.1 (nB s9.σ) h5 (Nat.le_refl _)
    obtain ⟨S9, eS⟩ : ∃ z : LwS, z = (LwS.mk (plcS s9.σ) s9.υ s9.ς s9.hs s9.ep s9.fc s9.ml 0 ((s9.nx + 1) % 8) (kInc s9.ct) s9.nb s9.n s9.LN s9.CM (updR s9.ρ s9.nx s9.σ) s9.x s9.x0 s9.f s9.gk s9.g1 s9.g2 s9.g3 s9.fb (encS s9.σ) s9.fA s9.fV (pastP s9.ct s9.fP (encS s9.σ)) s9.fO s9.g (fun _ => (nI (nB s9.σ)).toInt64) s9.fd) := ⟨_, rfl⟩
    refine lv_aload_n hx hb dL_law_280 rfl (lv_at hl 4 rfl) ?_
    refine lv_aload_n hx hb dL_law_281 rfl (lv_at hl 2 rfl) ?_
    refine lw_w (Wc := (LCh cy a s9 s9)) (Wn := (LCh cy a S9 s9)) hC (w_addBath_ok l G cy kS vS a.aX a.na a.tr a.sn s9.hs a.hi a.sc s9.ep s9.fc a.ob a.hA s9.nx s9.ct a.ra s9.ρ s9.σ a.oA s9.fo hI.1.1 hnx hct h5 (if_pos h5)) (vx_cwSW 2 hC.S9.2.2.2.2 gL_law_L_addBath rfl rfl rfl (by decide +kernel) ⟨Nat.le_of_ble_eq_true rfl, Nat.le_of_ble_eq_true rfl⟩) [0, 1, 4, 5, 6, 24] rfl (by decide) (SameL.cons SameA.rf (SameL.cons SameA.st (SameL.cons SameA.one (SameL.cons SameA.rf (SameL.cons SameA.ring (SameL.cons SameA.one SameL.nil)))))) (by subst eS; rfl) hP hD hS rfl hl.1 rfl (Nat.le_of_ble_eq_true rfl) ⟨hc0, hs0⟩ dL_law_282 (fun H locs hP hD hS => ?_)
    refine lv_istore (lv' := [(6, .int 0), (5, .int (nI (4 * q))), (4, .ref a.oD), (3, .ref a.oA), (2, .ref a.am), (1, .ref a.aX), (0, .ref b)]) hx hb dL_law_285 hl (by decide) rfl (fun ls hl => ?_)
    refine lv_aload_n hx hb dL_law_287 rfl (lv_at hl 4 rfl) ?_
    refine lw_m (s1 := S9) (t1 := s9) (Wn := (LCh cy a S9 S9)) hC (c_X8_addBath_ok l G cy a.am a.aS a.aBf a.aAs a.aSv a.aPa a.aOu a.aTx a.aCo s9.ct s9.nb s9.LN ((s9.x0).1) s9.CM s9.hs s9.th (bI (s9.x0).2) s9.ep s9.fc s9.σ s9.fB s9.fP hI.1.1 hct z1 z2 z3 (if_pos h5)) (cwV 0 hC.S9.2.2.2.2 gL_law_X8_addBath rfl rfl rfl (by decide +kernel) ⟨Nat.le_of_ble_eq_true rfl, Nat.le_of_ble_eq_true rfl⟩) [15, 16, 17, 20] rfl (by decide) (SameR.cons (SameR.cons (SameR.cons (SameR.cons SameR.nil)))) (by subst eS; rfl) hP hD hS rfl hl.1 rfl (Nat.le_of_ble_eq_true rfl) ⟨hcn, hsn⟩ dL_law_288 (fun H locs hP hD hS => ?_)
    refine lv_istore (lv' := [(7, .int (nI (nB s9.σ))), (6, .int 0), (5, .int (nI (4 * q))), (4, .ref a.oD), (3, .ref a.oA), (2, .ref a.am), (1, .ref a.aX), (0, .ref b)]) hx hb dL_law_291 hl (by decide) rfl (fun ls hl => ?_)
    refine lv_aload_n hx hb dL_law_293 rfl (lv_at hl 5 rfl) ?_
    refine lw_thrown (s1 := S9) (t1 := S9) (k := 0) hC hP (by subst eS; rfl) hl.1 (Nat.le_of_ble_eq_true rfl) ⟨hcn, hsn⟩ dL_law_294 ?_
    refine lv_iload hx hb dL_law_297 (lv_at hl 1 rfl) ?_
    refine lv_icmp_eq (tgt := 304) hx hb dL_law_299 (by decide) (fun c_299 => ?_) (fun c_299 => ?_)
    rotate_left
    · exact absurd c_299 (by decide)
    refine lv_iload hx hb dL_law_304 (lv_at hl 1 rfl) ?_
    refine lv_if_ne (tgt := 321) hx hb dL_law_306 (by decide) (fun c_306 => ?_) (fun c_306 => ?_)
    · exact absurd c_306 (by decide)
    refine lv_aload_n hx hb dL_law_309 rfl (lv_at hl 4 rfl) ?_
    refine lv_iconst (v := 0) hx hb dL_law_310 (by decide) ?_
    refine lw_ldL (s1 := S9) (t1 := S9) (x := (nI (nB s9.σ)).toInt64) hC hP (by subst eS; rfl) dL_law_311 ?_
    refine lv_iload hx hb dL_law_312 (lv_at hl 0 rfl) ?_
    refine lv_i2l hx hb dL_law_314 rfl ?_
    refine m_lcmp0 hx hb rfl dL_law_315 ?_
    refine lv_if_eq (tgt := 321) hx hb dL_law_316 (by decide) (fun c_316 => ?_) (fun c_316 => ?_)
    rotate_left
    · exact absurd c_316 (by decide)
    refine lv_goto (tgt := 2890) hx hb dL_law_321 (by decide) ?_
    refine W.widen (k := cells + 1) (n := slots + 6) (by omega) (by omega) ?_
    exact kk S9 H locs ls (LI.of (LI.push hI ((inv_plcS hI.1 h5).mono (by omega))) (by subst eS; rfl) (by subst eS; rfl) (by subst eS; rfl) (by subst eS; rfl) (by subst eS; rfl) (by subst eS; rfl) (by subst eS; rfl) (by subst eS; rfl) (by subst eS; rfl) (by subst eS; rfl) (by subst eS; rfl) (by subst eS; rfl) (by subst eS; rfl) (by subst eS; rfl) (by subst eS; rfl)) hP hD hS (lv_sub hl [2, 3, 4, 5, 6, 7] rfl)
  · obtain ⟨S9, eS⟩ : ∃ z : LwS, z = (LwS.mk s9.σ s9.υ s9.ς s9.hs s9.ep s9.fc s9.ml 1 s9.nx s9.ct s9.nb s9.n s9.LN s9.CM s9.ρ s9.x s9.x0 s9.f s9.gk s9.g1 s9.g2 s9.g3 s9.fb (encS s9.σ) s9.fA s9.fV s9.fP s9.fO s9.g s9.fo s9.fd) := ⟨_, rfl⟩
    refine lv_aload_n hx hb dL_law_280 rfl (lv_at hl 4 rfl) ?_
    refine lv_aload_n hx hb dL_law_281 rfl (lv_at hl 2 rfl) ?_
    refine lw_w (Wc := (LCh cy a s9 s9)) (Wn := (LCh cy a S9 s9)) hC (w_addBath_3 l G cy kS vS a.aX a.na a.tr a.sn s9.hs a.hi a.sc s9.ep s9.fc a.ob s9.σ a.oA s9.fo hC.hl9 hI.1.1 (if_neg h5)) (vx_cwSW 2 hC.S9.2.2.2.2 gL_law_L_addBath rfl rfl rfl (by decide +kernel) ⟨Nat.le_of_ble_eq_true rfl, Nat.le_of_ble_eq_true rfl⟩) [0, 1, 24] rfl (by decide) (SameL.cons SameA.rf (SameL.cons SameA.rf (SameL.cons SameA.rf SameL.nil))) (by subst eS; rfl) hP hD hS rfl hl.1 rfl (Nat.le_of_ble_eq_true rfl) ⟨hc1, hs1⟩ dL_law_282 (fun H locs hP hD hS => ?_)
    refine lv_istore (lv' := [(6, .int 1), (5, .int (nI (4 * q))), (4, .ref a.oD), (3, .ref a.oA), (2, .ref a.am), (1, .ref a.aX), (0, .ref b)]) hx hb dL_law_285 hl (by decide) rfl (fun ls hl => ?_)
    refine lv_aload_n hx hb dL_law_287 rfl (lv_at hl 4 rfl) ?_
    refine lw_m (s1 := S9) (t1 := s9) (Wn := (LCh cy a S9 S9)) hC (c_X8_addBath_no l G cy a.am a.aS a.aBf a.aAs a.aSv a.aPa a.aOu a.aTx a.aCo s9.ct s9.nb s9.LN ((s9.x0).1) s9.CM s9.hs s9.th (bI (s9.x0).2) s9.ep s9.fc s9.σ s9.fB hI.1.1 (by rw [if_neg h5]; decide)) (cwV 0 hC.S9.2.2.2.2 gL_law_X8_addBath rfl rfl rfl (by decide +kernel) ⟨Nat.le_of_ble_eq_true rfl, Nat.le_of_ble_eq_true rfl⟩) [15, 16, 17] rfl (by decide) (SameR.cons (SameR.cons (SameR.cons SameR.nil))) (by subst eS; rfl) hP hD hS rfl hl.1 rfl (Nat.le_of_ble_eq_true rfl) ⟨hc1, hs1⟩ dL_law_288 (fun H locs hP hD hS => ?_)
    refine lv_istore (lv' := [(7, .int 0), (6, .int 1), (5, .int (nI (4 * q))), (4, .ref a.oD), (3, .ref a.oA), (2, .ref a.am), (1, .ref a.aX), (0, .ref b)]) hx hb dL_law_291 hl (by decide) rfl (fun ls hl => ?_)
    refine lv_aload_n hx hb dL_law_293 rfl (lv_at hl 5 rfl) ?_
    refine lw_thrown (s1 := S9) (t1 := S9) (k := 1) hC hP (by subst eS; rfl) hl.1 (Nat.le_of_ble_eq_true rfl) ⟨hc1, hs1⟩ dL_law_294 ?_
    refine lv_iload hx hb dL_law_297 (lv_at hl 1 rfl) ?_
    refine lv_icmp_eq (tgt := 304) hx hb dL_law_299 (by decide) (fun c_299 => ?_) (fun c_299 => ?_)
    rotate_left
    · exact absurd c_299 (by decide)
    refine lv_iload hx hb dL_law_304 (lv_at hl 1 rfl) ?_
    refine lv_if_ne (tgt := 321) hx hb dL_law_306 (by decide) (fun c_306 => ?_) (fun c_306 => ?_)
    rotate_left
    · exact absurd c_306 (by decide)
    refine lv_goto (tgt := 2890) hx hb dL_law_321 (by decide) ?_
    exact kk S9 H locs ls (LI.of (LI.mono hI (by omega)) (by subst eS; rfl) (by subst eS; rfl) (by subst eS; rfl) (by subst eS; rfl) (by subst eS; rfl) (by subst eS; rfl) (by subst eS; rfl) (by subst eS; rfl) (by subst eS; rfl) (by subst eS; rfl) (by subst eS; rfl) (by subst eS; rfl) (by subst eS; rfl) (by subst eS; rfl) (by subst eS; rfl)) hP hD hS (lv_sub hl [2, 3, 4, 5, 6, 7] rfl)

set_option maxRecDepth 100000 in
set_option maxHeartbeats 4000000 in
theorem case_1 {p : Program} {l : Launch} {e : Env} {s : State} {m : MethodId} {below : List Frame} {meth : Method} {cq : Code} {G : va_G} {cy : Nat → ClassId} {kS vS : Nat → Nat} {A : Nat → Prop} {a : LA} {b L q : Nat} {xs : Nat → Int32} {Q : State → Prop} {n0 cells slots : Nat} (hC : LC l p s m meth cq G cy kS vS A b L xs) (hq : 4 * q + 4 ≤ L) (hn0 : n0 < 1000000) (hc1 : cells + 1 ≤ room_1.cells) (hs1 : slots + 6 ≤ room_1.slots) (kk : LGo p l e s m below meth cq G cy A a b q Q (n0 + 300) (cells + 1) (slots + 6) 2890) : LGo p l e s m below meth cq G cy A a b q Q n0 cells slots 324 := by
  intro s9 H locs ls hI hP hD hS hl
  obtain ⟨hx, hb, hml, hown, hts⟩ := id hC.S9
  have hL9 := hC.hL
  have hc0 : cells + 0 ≤ room_1.cells := Nat.le_of_succ_le hc1
  have hcn : cells ≤ room_1.cells := Nat.le_of_succ_le hc1
  have hs0 : slots + 0 ≤ room_1.slots := Nat.le_trans (Nat.le_add_right slots 6) hs1
  have hsn : slots ≤ room_1.slots := Nat.le_trans (Nat.le_add_right slots 6) hs1
  have ho := hI.1.1
  have hN0 := ho.1
  have hM0 := ho.2.1
  have hE0 := ho.2.2.1
  have hnx := hI.2.2.2.2.1
  have hct := hI.2.2.2.2.2.1
  rcases filF_v (nB s9.σ) (vB s9.σ) (xs (4 * q + 1)) (xs (4 * q + 2)) (xs (4 * q + 3)) with z0 | z1 | z2 | z5
  · obtain ⟨⟨e1, hj⟩, q3, q4, q5⟩ := filF_0 hN0 z0
    obtain ⟨S9, eS⟩ : ∃ z : LwS, z = (LwS.mk (filS (bx (xs (4 * q + 1))) (xs (4 * q + 3)) (xs (4 * q + 3) * (10 + 30 * xs (4 * q + 2))) s9.σ) s9.υ s9.ς s9.hs s9.ep s9.fc s9.ml 0 ((s9.nx + 1) % 8) (kInc s9.ct) s9.nb s9.n s9.LN s9.CM (updR s9.ρ s9.nx s9.σ) s9.x s9.x0 s9.f s9.gk s9.g1 s9.g2 s9.g3 s9.fb (encS s9.σ) s9.fA s9.fV (pastP s9.ct s9.fP (encS s9.σ)) s9.fO s9.g (fun _ => (vB (filS (bx (xs (4 * q + 1))) (xs (4 * q + 3)) (xs (4 * q + 3) * (10 + 30 * xs (4 * q + 2))) s9.σ) (bx (xs (4 * q + 1)))).toInt64) s9.fd) := ⟨_, rfl⟩
    refine lv_aload_n hx hb dL_law_324 rfl (lv_at hl 4 rfl) ?_
    refine lv_aload_n hx hb dL_law_325 rfl (lv_at hl 5 rfl) ?_
    refine lv_iload hx hb dL_law_326 (lv_at hl 0 rfl) ?_
    refine lv_iconst (v := 1) hx hb dL_law_328 (by decide) ?_
    refine lv_iadd hx hb dL_law_329 ?_
    refine m_sld (v := nI (bx (xs (4 * q + 1)))) hx hb hC.hX hC.hbl hC.hbA hS (k := 4 * q + 1) (m_add rfl rfl) (by omega) hC.hL e1 dL_law_330 ?_
    refine lv_aload_n hx hb dL_law_331 rfl (lv_at hl 5 rfl) ?_
    refine lv_iload hx hb dL_law_332 (lv_at hl 0 rfl) ?_
    refine lv_iconst (v := 2) hx hb dL_law_334 (by decide) ?_
    refine lv_iadd hx hb dL_law_335 ?_
    refine m_sld (v := xs (4 * q + 2)) hx hb hC.hX hC.hbl hC.hbA hS (k := 4 * q + 2) (m_add rfl rfl) (by omega) hC.hL rfl dL_law_336 ?_
    refine lv_aload_n hx hb dL_law_337 rfl (lv_at hl 5 rfl) ?_
    refine lv_iload hx hb dL_law_338 (lv_at hl 0 rfl) ?_
    refine lv_iconst (v := 3) hx hb dL_law_340 (by decide) ?_
    refine lv_iadd hx hb dL_law_341 ?_
    refine m_sld (v := xs (4 * q + 3)) hx hb hC.hX hC.hbl hC.hbA hS (k := 4 * q + 3) (m_add rfl rfl) (by omega) hC.hL rfl dL_law_342 ?_
    refine lv_aload_n hx hb dL_law_343 rfl (lv_at hl 2 rfl) ?_
    refine lw_w (Wc := (LCh cy a s9 s9)) (Wn := (LCh cy a S9 s9)) hC (w_runTap_ok l G cy kS vS a.aX a.na a.tr a.sn s9.hs a.hi a.sc s9.ep s9.fc a.ob a.hA s9.nx s9.ct a.ra s9.ρ s9.σ (bx (xs (4 * q + 1))) (xs (4 * q + 2)) (xs (4 * q + 3)) a.oA s9.fo hI.1.1 hnx hct hj q3 (by rw [← e1]; exact z0)) (vx_cwSW 5 hC.S9.2.2.2.2 gL_law_L_runTap rfl rfl rfl (by decide +kernel) ⟨Nat.le_of_ble_eq_true rfl, Nat.le_of_ble_eq_true rfl⟩) [0, 1, 4, 5, 6, 24] rfl (by decide) (SameL.cons SameA.rf (SameL.cons SameA.st (SameL.cons SameA.one (SameL.cons SameA.rf (SameL.cons SameA.ring (SameL.cons SameA.one SameL.nil)))))) (by subst eS; rfl) hP hD hS rfl hl.1 rfl (Nat.le_of_ble_eq_true rfl) ⟨hc0, hs0⟩ dL_law_344 (fun H locs hP hD hS => ?_)
    refine lv_istore (lv' := [(6, .int 0), (5, .int (nI (4 * q))), (4, .ref a.oD), (3, .ref a.oA), (2, .ref a.am), (1, .ref a.aX), (0, .ref b)]) hx hb dL_law_347 hl (by decide) rfl (fun ls hl => ?_)
    refine lv_aload_n hx hb dL_law_349 rfl (lv_at hl 4 rfl) ?_
    refine lv_aload_n hx hb dL_law_350 rfl (lv_at hl 6 rfl) ?_
    refine lv_iload hx hb dL_law_351 (lv_at hl 1 rfl) ?_
    refine lv_iconst (v := 1) hx hb dL_law_353 (by decide) ?_
    refine lv_iadd hx hb dL_law_354 ?_
    refine m_sld (v := xs (4 * q + 1)) hx hb hC.hX hC.hbl hC.hbA hS (k := 4 * q + 1) (m_add rfl rfl) (by omega) hC.hL rfl dL_law_355 ?_
    refine lv_aload_n hx hb dL_law_356 rfl (lv_at hl 6 rfl) ?_
    refine lv_iload hx hb dL_law_357 (lv_at hl 1 rfl) ?_
    refine lv_iconst (v := 2) hx hb dL_law_359 (by decide) ?_
    refine lv_iadd hx hb dL_law_360 ?_
    refine m_sld (v := xs (4 * q + 2)) hx hb hC.hX hC.hbl hC.hbA hS (k := 4 * q + 2) (m_add rfl rfl) (by omega) hC.hL rfl dL_law_361 ?_
    refine lv_aload_n hx hb dL_law_362 rfl (lv_at hl 6 rfl) ?_
    refine lv_iload hx hb dL_law_363 (lv_at hl 1 rfl) ?_
    refine lv_iconst (v := 3) hx hb dL_law_365 (by decide) ?_
    refine lv_iadd hx hb dL_law_366 ?_
    refine m_sld (v := xs (4 * q + 3)) hx hb hC.hX hC.hbl hC.hbA hS (k := 4 * q + 3) (m_add rfl rfl) (by omega) hC.hL rfl dL_law_367 ?_
    refine lw_m (s1 := S9) (t1 := s9) (Wn := (LCh cy a S9 S9)) hC (c_X8_runTap_ok l G cy a.am a.aS a.aBf a.aAs a.aSv a.aPa a.aOu a.aTx a.aCo s9.ct s9.nb s9.LN ((s9.x0).1) s9.CM s9.hs s9.th (bI (s9.x0).2) s9.ep s9.fc s9.σ (xs (4 * q + 1)) (xs (4 * q + 2)) (xs (4 * q + 3)) s9.fB s9.fP hI.1.1 hct e1 (inR_m1 (by decide) q4) z0) (cwV 3 hC.S9.2.2.2.2 gL_law_X8_runTap rfl rfl rfl (by decide +kernel) ⟨Nat.le_of_ble_eq_true rfl, Nat.le_of_ble_eq_true rfl⟩) [15, 16, 17, 20] rfl (by decide) (SameR.cons (SameR.cons (SameR.cons (SameR.cons SameR.nil)))) (by subst eS; rfl) hP hD hS rfl hl.1 rfl (Nat.le_of_ble_eq_true rfl) ⟨hcn, hsn⟩ dL_law_368 (fun H locs hP hD hS => ?_)
    refine lv_istore (lv' := [(7, .int (vB s9.σ (bx (xs (4 * q + 1))) + (xs (4 * q + 3)))), (6, .int 0), (5, .int (nI (4 * q))), (4, .ref a.oD), (3, .ref a.oA), (2, .ref a.am), (1, .ref a.aX), (0, .ref b)]) hx hb dL_law_371 hl (by decide) rfl (fun ls hl => ?_)
    refine lv_aload_n hx hb dL_law_373 rfl (lv_at hl 5 rfl) ?_
    refine lw_thrown (s1 := S9) (t1 := S9) (k := 0) hC hP (by subst eS; rfl) hl.1 (Nat.le_of_ble_eq_true rfl) ⟨hcn, hsn⟩ dL_law_374 ?_
    refine lv_iload hx hb dL_law_377 (lv_at hl 1 rfl) ?_
    refine lv_icmp_eq (tgt := 384) hx hb dL_law_379 (by decide) (fun c_379 => ?_) (fun c_379 => ?_)
    rotate_left
    · exact absurd c_379 (by decide)
    refine lv_iload hx hb dL_law_384 (lv_at hl 1 rfl) ?_
    refine lv_if_ne (tgt := 401) hx hb dL_law_386 (by decide) (fun c_386 => ?_) (fun c_386 => ?_)
    · exact absurd c_386 (by decide)
    refine lv_aload_n hx hb dL_law_389 rfl (lv_at hl 4 rfl) ?_
    refine lv_iconst (v := 0) hx hb dL_law_390 (by decide) ?_
    refine lw_ldL (s1 := S9) (t1 := S9) (x := (vB (filS (bx (xs (4 * q + 1))) (xs (4 * q + 3)) (xs (4 * q + 3) * (10 + 30 * xs (4 * q + 2))) s9.σ) (bx (xs (4 * q + 1)))).toInt64) hC hP (by subst eS; rfl) dL_law_391 ?_
    refine lv_iload hx hb dL_law_392 (lv_at hl 0 rfl) ?_
    refine lv_i2l hx hb dL_law_394 rfl ?_
    refine m_lcmp0 hx hb (congrArg Int32.toInt64 m_updS) dL_law_395 ?_
    refine lv_if_eq (tgt := 401) hx hb dL_law_396 (by decide) (fun c_396 => ?_) (fun c_396 => ?_)
    rotate_left
    · exact absurd c_396 (by decide)
    refine lv_goto (tgt := 2890) hx hb dL_law_401 (by decide) ?_
    refine W.widen (k := cells + 1) (n := slots + 6) (by omega) (by omega) ?_
    exact kk S9 H locs ls (LI.of (LI.push (σ' := filS (bx (xs (4 * q + 1))) (xs (4 * q + 3)) (xs (4 * q + 3) * (10 + 30 * xs (4 * q + 2))) s9.σ) hI (by have h9 := appC_inv (k := 1) (a := xs (4 * q + 1)) (b := xs (4 * q + 2)) (c := xs (4 * q + 3)) hI.1 (by omega) (fltC_1.trans z0); rw [appC_1] at h9; exact h9.mono (by omega))) (by subst eS; rfl) (by subst eS; rfl) (by subst eS; rfl) (by subst eS; rfl) (by subst eS; rfl) (by subst eS; rfl) (by subst eS; rfl) (by subst eS; rfl) (by subst eS; rfl) (by subst eS; rfl) (by subst eS; rfl) (by subst eS; rfl) (by subst eS; rfl) (by subst eS; rfl) (by subst eS; rfl)) hP hD hS (lv_sub hl [2, 3, 4, 5, 6, 7] rfl)
  · obtain ⟨S9, eS⟩ : ∃ z : LwS, z = (LwS.mk s9.σ s9.υ s9.ς s9.hs s9.ep s9.fc s9.ml (mcT (filF (nB s9.σ) (vB s9.σ) (xs (4 * q + 1)) (xs (4 * q + 2)) (xs (4 * q + 3)))) s9.nx s9.ct s9.nb s9.n s9.LN s9.CM s9.ρ s9.x s9.x0 s9.f s9.gk s9.g1 s9.g2 s9.g3 s9.fb (encS s9.σ) s9.fA s9.fV s9.fP s9.fO s9.g s9.fo s9.fd) := ⟨_, rfl⟩
    refine lv_aload_n hx hb dL_law_324 rfl (lv_at hl 4 rfl) ?_
    refine lv_aload_n hx hb dL_law_325 rfl (lv_at hl 5 rfl) ?_
    refine lv_iload hx hb dL_law_326 (lv_at hl 0 rfl) ?_
    refine lv_iconst (v := 1) hx hb dL_law_328 (by decide) ?_
    refine lv_iadd hx hb dL_law_329 ?_
    refine m_sld (v := xs (4 * q + 1)) hx hb hC.hX hC.hbl hC.hbA hS (k := 4 * q + 1) (m_add rfl rfl) (by omega) hC.hL rfl dL_law_330 ?_
    refine lv_aload_n hx hb dL_law_331 rfl (lv_at hl 5 rfl) ?_
    refine lv_iload hx hb dL_law_332 (lv_at hl 0 rfl) ?_
    refine lv_iconst (v := 2) hx hb dL_law_334 (by decide) ?_
    refine lv_iadd hx hb dL_law_335 ?_
    refine m_sld (v := xs (4 * q + 2)) hx hb hC.hX hC.hbl hC.hbA hS (k := 4 * q + 2) (m_add rfl rfl) (by omega) hC.hL rfl dL_law_336 ?_
    refine lv_aload_n hx hb dL_law_337 rfl (lv_at hl 5 rfl) ?_
    refine lv_iload hx hb dL_law_338 (lv_at hl 0 rfl) ?_
    refine lv_iconst (v := 3) hx hb dL_law_340 (by decide) ?_
    refine lv_iadd hx hb dL_law_341 ?_
    refine m_sld (v := xs (4 * q + 3)) hx hb hC.hX hC.hbl hC.hbA hS (k := 4 * q + 3) (m_add rfl rfl) (by omega) hC.hL rfl dL_law_342 ?_
    refine lv_aload_n hx hb dL_law_343 rfl (lv_at hl 2 rfl) ?_
    refine lw_w (Wc := (LCh cy a s9 s9)) (Wn := (LCh cy a S9 s9)) hC (w_runTap_1 l G cy kS vS a.aX a.na a.tr a.sn s9.hs a.hi a.sc s9.ep s9.fc a.ob s9.σ (xs (4 * q + 1)) (xs (4 * q + 2)) (xs (4 * q + 3)) a.oA s9.fo hC.hl9 hI.1.1 z1) (vx_cwSW 5 hC.S9.2.2.2.2 gL_law_L_runTap rfl rfl rfl (by decide +kernel) ⟨Nat.le_of_ble_eq_true rfl, Nat.le_of_ble_eq_true rfl⟩) [0, 1, 24] rfl (by decide) (SameL.cons SameA.rf (SameL.cons SameA.rf (SameL.cons SameA.rf SameL.nil))) (by subst eS; rfl) hP hD hS rfl hl.1 rfl (Nat.le_of_ble_eq_true rfl) ⟨hc1, hs1⟩ dL_law_344 (fun H locs hP hD hS => ?_)
    refine lv_istore (lv' := [(6, .int 1), (5, .int (nI (4 * q))), (4, .ref a.oD), (3, .ref a.oA), (2, .ref a.am), (1, .ref a.aX), (0, .ref b)]) hx hb dL_law_347 hl (by decide) rfl (fun ls hl => ?_)
    refine lv_aload_n hx hb dL_law_349 rfl (lv_at hl 4 rfl) ?_
    refine lv_aload_n hx hb dL_law_350 rfl (lv_at hl 6 rfl) ?_
    refine lv_iload hx hb dL_law_351 (lv_at hl 1 rfl) ?_
    refine lv_iconst (v := 1) hx hb dL_law_353 (by decide) ?_
    refine lv_iadd hx hb dL_law_354 ?_
    refine m_sld (v := xs (4 * q + 1)) hx hb hC.hX hC.hbl hC.hbA hS (k := 4 * q + 1) (m_add rfl rfl) (by omega) hC.hL rfl dL_law_355 ?_
    refine lv_aload_n hx hb dL_law_356 rfl (lv_at hl 6 rfl) ?_
    refine lv_iload hx hb dL_law_357 (lv_at hl 1 rfl) ?_
    refine lv_iconst (v := 2) hx hb dL_law_359 (by decide) ?_
    refine lv_iadd hx hb dL_law_360 ?_
    refine m_sld (v := xs (4 * q + 2)) hx hb hC.hX hC.hbl hC.hbA hS (k := 4 * q + 2) (m_add rfl rfl) (by omega) hC.hL rfl dL_law_361 ?_
    refine lv_aload_n hx hb dL_law_362 rfl (lv_at hl 6 rfl) ?_
    refine lv_iload hx hb dL_law_363 (lv_at hl 1 rfl) ?_
    refine lv_iconst (v := 3) hx hb dL_law_365 (by decide) ?_
    refine lv_iadd hx hb dL_law_366 ?_
    refine m_sld (v := xs (4 * q + 3)) hx hb hC.hX hC.hbl hC.hbA hS (k := 4 * q + 3) (m_add rfl rfl) (by omega) hC.hL rfl dL_law_367 ?_
    refine lw_m (s1 := S9) (t1 := s9) (Wn := (LCh cy a S9 S9)) hC (c_X8_runTap_no l G cy a.am a.aS a.aBf a.aAs a.aSv a.aPa a.aOu a.aTx a.aCo s9.ct s9.nb s9.LN ((s9.x0).1) s9.CM s9.hs s9.th (bI (s9.x0).2) s9.ep s9.fc s9.σ (xs (4 * q + 1)) (xs (4 * q + 2)) (xs (4 * q + 3)) s9.fB hI.1.1 (by rw [z1]; decide) (by rw [z1]; decide)) (cwV 3 hC.S9.2.2.2.2 gL_law_X8_runTap rfl rfl rfl (by decide +kernel) ⟨Nat.le_of_ble_eq_true rfl, Nat.le_of_ble_eq_true rfl⟩) [15, 16, 17] rfl (by decide) (SameR.cons (SameR.cons (SameR.cons SameR.nil))) (by subst eS; rfl) hP hD hS rfl hl.1 rfl (Nat.le_of_ble_eq_true rfl) ⟨hc1, hs1⟩ dL_law_368 (fun H locs hP hD hS => ?_)
    refine lv_istore (lv' := [(7, .int 0), (6, .int 1), (5, .int (nI (4 * q))), (4, .ref a.oD), (3, .ref a.oA), (2, .ref a.am), (1, .ref a.aX), (0, .ref b)]) hx hb dL_law_371 hl (by decide) rfl (fun ls hl => ?_)
    refine lv_aload_n hx hb dL_law_373 rfl (lv_at hl 5 rfl) ?_
    refine lw_thrown (s1 := S9) (t1 := S9) (k := mcT (filF (nB s9.σ) (vB s9.σ) (xs (4 * q + 1)) (xs (4 * q + 2)) (xs (4 * q + 3)))) hC hP (by subst eS; rfl) hl.1 (Nat.le_of_ble_eq_true rfl) ⟨hc1, hs1⟩ dL_law_374 ?_
    refine lv_iload hx hb dL_law_377 (lv_at hl 1 rfl) ?_
    refine lv_icmp_eq (tgt := 384) hx hb dL_law_379 (by decide) (fun c_379 => ?_) (fun c_379 => ?_)
    rotate_left
    · exact absurd (by rw [z1]; rfl) c_379
    refine lv_iload hx hb dL_law_384 (lv_at hl 1 rfl) ?_
    refine lv_if_ne (tgt := 401) hx hb dL_law_386 (by decide) (fun c_386 => ?_) (fun c_386 => ?_)
    rotate_left
    · exact absurd c_386 (by decide)
    refine lv_goto (tgt := 2890) hx hb dL_law_401 (by decide) ?_
    exact kk S9 H locs ls (LI.of (LI.mono hI (by omega)) (by subst eS; rfl) (by subst eS; rfl) (by subst eS; rfl) (by subst eS; rfl) (by subst eS; rfl) (by subst eS; rfl) (by subst eS; rfl) (by subst eS; rfl) (by subst eS; rfl) (by subst eS; rfl) (by subst eS; rfl) (by subst eS; rfl) (by subst eS; rfl) (by subst eS; rfl) (by subst eS; rfl)) hP hD hS (lv_sub hl [2, 3, 4, 5, 6, 7] rfl)
  · obtain ⟨S9, eS⟩ : ∃ z : LwS, z = (LwS.mk s9.σ s9.υ s9.ς s9.hs s9.ep s9.fc s9.ml (mcT (filF (nB s9.σ) (vB s9.σ) (xs (4 * q + 1)) (xs (4 * q + 2)) (xs (4 * q + 3)))) s9.nx s9.ct s9.nb s9.n s9.LN s9.CM s9.ρ s9.x s9.x0 s9.f s9.gk s9.g1 s9.g2 s9.g3 s9.fb (encS s9.σ) s9.fA s9.fV s9.fP s9.fO s9.g s9.fo s9.fd) := ⟨_, rfl⟩
    refine lv_aload_n hx hb dL_law_324 rfl (lv_at hl 4 rfl) ?_
    refine lv_aload_n hx hb dL_law_325 rfl (lv_at hl 5 rfl) ?_
    refine lv_iload hx hb dL_law_326 (lv_at hl 0 rfl) ?_
    refine lv_iconst (v := 1) hx hb dL_law_328 (by decide) ?_
    refine lv_iadd hx hb dL_law_329 ?_
    refine m_sld (v := xs (4 * q + 1)) hx hb hC.hX hC.hbl hC.hbA hS (k := 4 * q + 1) (m_add rfl rfl) (by omega) hC.hL rfl dL_law_330 ?_
    refine lv_aload_n hx hb dL_law_331 rfl (lv_at hl 5 rfl) ?_
    refine lv_iload hx hb dL_law_332 (lv_at hl 0 rfl) ?_
    refine lv_iconst (v := 2) hx hb dL_law_334 (by decide) ?_
    refine lv_iadd hx hb dL_law_335 ?_
    refine m_sld (v := xs (4 * q + 2)) hx hb hC.hX hC.hbl hC.hbA hS (k := 4 * q + 2) (m_add rfl rfl) (by omega) hC.hL rfl dL_law_336 ?_
    refine lv_aload_n hx hb dL_law_337 rfl (lv_at hl 5 rfl) ?_
    refine lv_iload hx hb dL_law_338 (lv_at hl 0 rfl) ?_
    refine lv_iconst (v := 3) hx hb dL_law_340 (by decide) ?_
    refine lv_iadd hx hb dL_law_341 ?_
    refine m_sld (v := xs (4 * q + 3)) hx hb hC.hX hC.hbl hC.hbA hS (k := 4 * q + 3) (m_add rfl rfl) (by omega) hC.hL rfl dL_law_342 ?_
    refine lv_aload_n hx hb dL_law_343 rfl (lv_at hl 2 rfl) ?_
    refine lw_w (Wc := (LCh cy a s9 s9)) (Wn := (LCh cy a S9 s9)) hC (w_runTap_2 l G cy kS vS a.aX a.na a.tr a.sn s9.hs a.hi a.sc s9.ep s9.fc a.ob s9.σ (xs (4 * q + 1)) (xs (4 * q + 2)) (xs (4 * q + 3)) a.oA s9.fo hC.hl9 hI.1.1 z2) (vx_cwSW 5 hC.S9.2.2.2.2 gL_law_L_runTap rfl rfl rfl (by decide +kernel) ⟨Nat.le_of_ble_eq_true rfl, Nat.le_of_ble_eq_true rfl⟩) [0, 1, 24] rfl (by decide) (SameL.cons SameA.rf (SameL.cons SameA.rf (SameL.cons SameA.rf SameL.nil))) (by subst eS; rfl) hP hD hS rfl hl.1 rfl (Nat.le_of_ble_eq_true rfl) ⟨hc1, hs1⟩ dL_law_344 (fun H locs hP hD hS => ?_)
    refine lv_istore (lv' := [(6, .int 2), (5, .int (nI (4 * q))), (4, .ref a.oD), (3, .ref a.oA), (2, .ref a.am), (1, .ref a.aX), (0, .ref b)]) hx hb dL_law_347 hl (by decide) rfl (fun ls hl => ?_)
    refine lv_aload_n hx hb dL_law_349 rfl (lv_at hl 4 rfl) ?_
    refine lv_aload_n hx hb dL_law_350 rfl (lv_at hl 6 rfl) ?_
    refine lv_iload hx hb dL_law_351 (lv_at hl 1 rfl) ?_
    refine lv_iconst (v := 1) hx hb dL_law_353 (by decide) ?_
    refine lv_iadd hx hb dL_law_354 ?_
    refine m_sld (v := xs (4 * q + 1)) hx hb hC.hX hC.hbl hC.hbA hS (k := 4 * q + 1) (m_add rfl rfl) (by omega) hC.hL rfl dL_law_355 ?_
    refine lv_aload_n hx hb dL_law_356 rfl (lv_at hl 6 rfl) ?_
    refine lv_iload hx hb dL_law_357 (lv_at hl 1 rfl) ?_
    refine lv_iconst (v := 2) hx hb dL_law_359 (by decide) ?_
    refine lv_iadd hx hb dL_law_360 ?_
    refine m_sld (v := xs (4 * q + 2)) hx hb hC.hX hC.hbl hC.hbA hS (k := 4 * q + 2) (m_add rfl rfl) (by omega) hC.hL rfl dL_law_361 ?_
    refine lv_aload_n hx hb dL_law_362 rfl (lv_at hl 6 rfl) ?_
    refine lv_iload hx hb dL_law_363 (lv_at hl 1 rfl) ?_
    refine lv_iconst (v := 3) hx hb dL_law_365 (by decide) ?_
    refine lv_iadd hx hb dL_law_366 ?_
    refine m_sld (v := xs (4 * q + 3)) hx hb hC.hX hC.hbl hC.hbA hS (k := 4 * q + 3) (m_add rfl rfl) (by omega) hC.hL rfl dL_law_367 ?_
    refine lw_m (s1 := S9) (t1 := s9) (Wn := (LCh cy a S9 S9)) hC (c_X8_runTap_no l G cy a.am a.aS a.aBf a.aAs a.aSv a.aPa a.aOu a.aTx a.aCo s9.ct s9.nb s9.LN ((s9.x0).1) s9.CM s9.hs s9.th (bI (s9.x0).2) s9.ep s9.fc s9.σ (xs (4 * q + 1)) (xs (4 * q + 2)) (xs (4 * q + 3)) s9.fB hI.1.1 (by rw [z2]; decide) (by rw [z2]; decide)) (cwV 3 hC.S9.2.2.2.2 gL_law_X8_runTap rfl rfl rfl (by decide +kernel) ⟨Nat.le_of_ble_eq_true rfl, Nat.le_of_ble_eq_true rfl⟩) [15, 16, 17] rfl (by decide) (SameR.cons (SameR.cons (SameR.cons SameR.nil))) (by subst eS; rfl) hP hD hS rfl hl.1 rfl (Nat.le_of_ble_eq_true rfl) ⟨hc1, hs1⟩ dL_law_368 (fun H locs hP hD hS => ?_)
    refine lv_istore (lv' := [(7, .int 0), (6, .int 2), (5, .int (nI (4 * q))), (4, .ref a.oD), (3, .ref a.oA), (2, .ref a.am), (1, .ref a.aX), (0, .ref b)]) hx hb dL_law_371 hl (by decide) rfl (fun ls hl => ?_)
    refine lv_aload_n hx hb dL_law_373 rfl (lv_at hl 5 rfl) ?_
    refine lw_thrown (s1 := S9) (t1 := S9) (k := mcT (filF (nB s9.σ) (vB s9.σ) (xs (4 * q + 1)) (xs (4 * q + 2)) (xs (4 * q + 3)))) hC hP (by subst eS; rfl) hl.1 (Nat.le_of_ble_eq_true rfl) ⟨hc1, hs1⟩ dL_law_374 ?_
    refine lv_iload hx hb dL_law_377 (lv_at hl 1 rfl) ?_
    refine lv_icmp_eq (tgt := 384) hx hb dL_law_379 (by decide) (fun c_379 => ?_) (fun c_379 => ?_)
    rotate_left
    · exact absurd (by rw [z2]; rfl) c_379
    refine lv_iload hx hb dL_law_384 (lv_at hl 1 rfl) ?_
    refine lv_if_ne (tgt := 401) hx hb dL_law_386 (by decide) (fun c_386 => ?_) (fun c_386 => ?_)
    rotate_left
    · exact absurd c_386 (by decide)
    refine lv_goto (tgt := 2890) hx hb dL_law_401 (by decide) ?_
    exact kk S9 H locs ls (LI.of (LI.mono hI (by omega)) (by subst eS; rfl) (by subst eS; rfl) (by subst eS; rfl) (by subst eS; rfl) (by subst eS; rfl) (by subst eS; rfl) (by subst eS; rfl) (by subst eS; rfl) (by subst eS; rfl) (by subst eS; rfl) (by subst eS; rfl) (by subst eS; rfl) (by subst eS; rfl) (by subst eS; rfl) (by subst eS; rfl)) hP hD hS (lv_sub hl [2, 3, 4, 5, 6, 7] rfl)
  · obtain ⟨S9, eS⟩ : ∃ z : LwS, z = (LwS.mk s9.σ s9.υ s9.ς s9.hs s9.ep s9.fc s9.ml (mcT (filF (nB s9.σ) (vB s9.σ) (xs (4 * q + 1)) (xs (4 * q + 2)) (xs (4 * q + 3)))) s9.nx s9.ct s9.nb s9.n s9.LN s9.CM s9.ρ s9.x s9.x0 s9.f s9.gk s9.g1 s9.g2 s9.g3 s9.fb (encS s9.σ) s9.fA s9.fV s9.fP s9.fO s9.g s9.fo s9.fd) := ⟨_, rfl⟩
    refine lv_aload_n hx hb dL_law_324 rfl (lv_at hl 4 rfl) ?_
    refine lv_aload_n hx hb dL_law_325 rfl (lv_at hl 5 rfl) ?_
    refine lv_iload hx hb dL_law_326 (lv_at hl 0 rfl) ?_
    refine lv_iconst (v := 1) hx hb dL_law_328 (by decide) ?_
    refine lv_iadd hx hb dL_law_329 ?_
    refine m_sld (v := xs (4 * q + 1)) hx hb hC.hX hC.hbl hC.hbA hS (k := 4 * q + 1) (m_add rfl rfl) (by omega) hC.hL rfl dL_law_330 ?_
    refine lv_aload_n hx hb dL_law_331 rfl (lv_at hl 5 rfl) ?_
    refine lv_iload hx hb dL_law_332 (lv_at hl 0 rfl) ?_
    refine lv_iconst (v := 2) hx hb dL_law_334 (by decide) ?_
    refine lv_iadd hx hb dL_law_335 ?_
    refine m_sld (v := xs (4 * q + 2)) hx hb hC.hX hC.hbl hC.hbA hS (k := 4 * q + 2) (m_add rfl rfl) (by omega) hC.hL rfl dL_law_336 ?_
    refine lv_aload_n hx hb dL_law_337 rfl (lv_at hl 5 rfl) ?_
    refine lv_iload hx hb dL_law_338 (lv_at hl 0 rfl) ?_
    refine lv_iconst (v := 3) hx hb dL_law_340 (by decide) ?_
    refine lv_iadd hx hb dL_law_341 ?_
    refine m_sld (v := xs (4 * q + 3)) hx hb hC.hX hC.hbl hC.hbA hS (k := 4 * q + 3) (m_add rfl rfl) (by omega) hC.hL rfl dL_law_342 ?_
    refine lv_aload_n hx hb dL_law_343 rfl (lv_at hl 2 rfl) ?_
    refine lw_w (Wc := (LCh cy a s9 s9)) (Wn := (LCh cy a S9 s9)) hC (w_runTap_5 l G cy kS vS a.aX a.na a.tr a.sn s9.hs a.hi a.sc s9.ep s9.fc a.ob s9.σ (xs (4 * q + 1)) (xs (4 * q + 2)) (xs (4 * q + 3)) a.oA s9.fo hC.hl9 hI.1.1 z5) (vx_cwSW 5 hC.S9.2.2.2.2 gL_law_L_runTap rfl rfl rfl (by decide +kernel) ⟨Nat.le_of_ble_eq_true rfl, Nat.le_of_ble_eq_true rfl⟩) [0, 1, 24] rfl (by decide) (SameL.cons SameA.rf (SameL.cons SameA.rf (SameL.cons SameA.rf SameL.nil))) (by subst eS; rfl) hP hD hS rfl hl.1 rfl (Nat.le_of_ble_eq_true rfl) ⟨hc1, hs1⟩ dL_law_344 (fun H locs hP hD hS => ?_)
    refine lv_istore (lv' := [(6, .int 3), (5, .int (nI (4 * q))), (4, .ref a.oD), (3, .ref a.oA), (2, .ref a.am), (1, .ref a.aX), (0, .ref b)]) hx hb dL_law_347 hl (by decide) rfl (fun ls hl => ?_)
    refine lv_aload_n hx hb dL_law_349 rfl (lv_at hl 4 rfl) ?_
    refine lv_aload_n hx hb dL_law_350 rfl (lv_at hl 6 rfl) ?_
    refine lv_iload hx hb dL_law_351 (lv_at hl 1 rfl) ?_
    refine lv_iconst (v := 1) hx hb dL_law_353 (by decide) ?_
    refine lv_iadd hx hb dL_law_354 ?_
    refine m_sld (v := xs (4 * q + 1)) hx hb hC.hX hC.hbl hC.hbA hS (k := 4 * q + 1) (m_add rfl rfl) (by omega) hC.hL rfl dL_law_355 ?_
    refine lv_aload_n hx hb dL_law_356 rfl (lv_at hl 6 rfl) ?_
    refine lv_iload hx hb dL_law_357 (lv_at hl 1 rfl) ?_
    refine lv_iconst (v := 2) hx hb dL_law_359 (by decide) ?_
    refine lv_iadd hx hb dL_law_360 ?_
    refine m_sld (v := xs (4 * q + 2)) hx hb hC.hX hC.hbl hC.hbA hS (k := 4 * q + 2) (m_add rfl rfl) (by omega) hC.hL rfl dL_law_361 ?_
    refine lv_aload_n hx hb dL_law_362 rfl (lv_at hl 6 rfl) ?_
    refine lv_iload hx hb dL_law_363 (lv_at hl 1 rfl) ?_
    refine lv_iconst (v := 3) hx hb dL_law_365 (by decide) ?_
    refine lv_iadd hx hb dL_law_366 ?_
    refine m_sld (v := xs (4 * q + 3)) hx hb hC.hX hC.hbl hC.hbA hS (k := 4 * q + 3) (m_add rfl rfl) (by omega) hC.hL rfl dL_law_367 ?_
    refine lw_m (s1 := S9) (t1 := s9) (Wn := (LCh cy a S9 S9)) hC (c_X8_runTap_no l G cy a.am a.aS a.aBf a.aAs a.aSv a.aPa a.aOu a.aTx a.aCo s9.ct s9.nb s9.LN ((s9.x0).1) s9.CM s9.hs s9.th (bI (s9.x0).2) s9.ep s9.fc s9.σ (xs (4 * q + 1)) (xs (4 * q + 2)) (xs (4 * q + 3)) s9.fB hI.1.1 (by rw [z5]; decide) (by rw [z5]; decide)) (cwV 3 hC.S9.2.2.2.2 gL_law_X8_runTap rfl rfl rfl (by decide +kernel) ⟨Nat.le_of_ble_eq_true rfl, Nat.le_of_ble_eq_true rfl⟩) [15, 16, 17] rfl (by decide) (SameR.cons (SameR.cons (SameR.cons SameR.nil))) (by subst eS; rfl) hP hD hS rfl hl.1 rfl (Nat.le_of_ble_eq_true rfl) ⟨hc1, hs1⟩ dL_law_368 (fun H locs hP hD hS => ?_)
    refine lv_istore (lv' := [(7, .int 0), (6, .int 3), (5, .int (nI (4 * q))), (4, .ref a.oD), (3, .ref a.oA), (2, .ref a.am), (1, .ref a.aX), (0, .ref b)]) hx hb dL_law_371 hl (by decide) rfl (fun ls hl => ?_)
    refine lv_aload_n hx hb dL_law_373 rfl (lv_at hl 5 rfl) ?_
    refine lw_thrown (s1 := S9) (t1 := S9) (k := mcT (filF (nB s9.σ) (vB s9.σ) (xs (4 * q + 1)) (xs (4 * q + 2)) (xs (4 * q + 3)))) hC hP (by subst eS; rfl) hl.1 (Nat.le_of_ble_eq_true rfl) ⟨hc1, hs1⟩ dL_law_374 ?_
    refine lv_iload hx hb dL_law_377 (lv_at hl 1 rfl) ?_
    refine lv_icmp_eq (tgt := 384) hx hb dL_law_379 (by decide) (fun c_379 => ?_) (fun c_379 => ?_)
    rotate_left
    · exact absurd (by rw [z5]; rfl) c_379
    refine lv_iload hx hb dL_law_384 (lv_at hl 1 rfl) ?_
    refine lv_if_ne (tgt := 401) hx hb dL_law_386 (by decide) (fun c_386 => ?_) (fun c_386 => ?_)
    rotate_left
    · exact absurd c_386 (by decide)
    refine lv_goto (tgt := 2890) hx hb dL_law_401 (by decide) ?_
    exact kk S9 H locs ls (LI.of (LI.mono hI (by omega)) (by subst eS; rfl) (by subst eS; rfl) (by subst eS; rfl) (by subst eS; rfl) (by subst eS; rfl) (by subst eS; rfl) (by subst eS; rfl) (by subst eS; rfl) (by subst eS; rfl) (by subst eS; rfl) (by subst eS; rfl) (by subst eS; rfl) (by subst eS; rfl) (by subst eS; rfl) (by subst eS; rfl)) hP hD hS (lv_sub hl [2, 3, 4, 5, 6, 7] rfl)

set_option maxRecDepth 100000 in
set_option maxHeartbeats 4000000 in
theorem case_2 {p : Program} {l : Launch} {e : Env} {s : State} {m : MethodId} {below : List Frame} {meth : Method} {cq : Code} {G : va_G} {cy : Nat → ClassId} {kS vS : Nat → Nat} {A : Nat → Prop} {a : LA} {b L q : Nat} {xs : Nat → Int32} {Q : State → Prop} {n0 cells slots : Nat} (hC : LC l p s m meth cq G cy kS vS A b L xs) (hq : 4 * q + 4 ≤ L) (hn0 : n0 < 1000000) (hc1 : cells + 1 ≤ room_1.cells) (hs1 : slots + 6 ≤ room_1.slots) (kk : LGo p l e s m below meth cq G cy A a b q Q (n0 + 300) (cells + 1) (slots + 6) 2890) : LGo p l e s m below meth cq G cy A a b q Q n0 cells slots 404 := by
  intro s9 H locs ls hI hP hD hS hl
  obtain ⟨hx, hb, hml, hown, hts⟩ := id hC.S9
  have hL9 := hC.hL
  have hc0 : cells + 0 ≤ room_1.cells := Nat.le_of_succ_le hc1
  have hcn : cells ≤ room_1.cells := Nat.le_of_succ_le hc1
  have hs0 : slots + 0 ≤ room_1.slots := Nat.le_trans (Nat.le_add_right slots 6) hs1
  have hsn : slots ≤ room_1.slots := Nat.le_trans (Nat.le_add_right slots 6) hs1
  have ho := hI.1.1
  have hN0 := ho.1
  have hM0 := ho.2.1
  have hE0 := ho.2.2.1
  have hnx := hI.2.2.2.2.1
  have hct := hI.2.2.2.2.2.1
  by_cases hxf : xs (4 * q + 2) = 0
  · rcases plgF_v (nB s9.σ) (xs (4 * q + 1)) with z0 | z1
    · obtain ⟨e1, hj⟩ := plgF_0 hN0 z0
      by_cases hz : pB s9.σ (bx (xs (4 * q + 1))) = 0
      · obtain ⟨S9, eS⟩ : ∃ z : LwS, z = (LwS.mk (pluS (bx (xs (4 * q + 1))) 0 s9.σ) s9.υ s9.ς s9.hs s9.ep s9.fc s9.ml 0 ((s9.nx + 1) % 8) (kInc s9.ct) s9.nb s9.n s9.LN s9.CM (updR s9.ρ s9.nx s9.σ) s9.x s9.x0 s9.f s9.gk s9.g1 s9.g2 s9.g3 s9.fb (encS s9.σ) s9.fA s9.fV (pastP s9.ct s9.fP (encS s9.σ)) s9.fO s9.g (fun _ => vL (pB s9.σ (bx (xs (4 * q + 1))))) s9.fd) := ⟨_, rfl⟩
        refine lv_aload_n hx hb dL_law_404 rfl (lv_at hl 4 rfl) ?_
        refine lv_aload_n hx hb dL_law_405 rfl (lv_at hl 5 rfl) ?_
        refine lv_iload hx hb dL_law_406 (lv_at hl 0 rfl) ?_
        refine lv_iconst (v := 1) hx hb dL_law_408 (by decide) ?_
        refine lv_iadd hx hb dL_law_409 ?_
        refine m_sld (v := nI (bx (xs (4 * q + 1)))) hx hb hC.hX hC.hbl hC.hbA hS (k := 4 * q + 1) (m_add rfl rfl) (by omega) hC.hL e1 dL_law_410 ?_
        refine lv_aload_n hx hb dL_law_411 rfl (lv_at hl 5 rfl) ?_
        refine lv_iload hx hb dL_law_412 (lv_at hl 0 rfl) ?_
        refine lv_iconst (v := 2) hx hb dL_law_414 (by decide) ?_
        refine lv_iadd hx hb dL_law_415 ?_
        refine m_sld (v := xs (4 * q + 2)) hx hb hC.hX hC.hbl hC.hbA hS (k := 4 * q + 2) (m_add rfl rfl) (by omega) hC.hL rfl dL_law_416 ?_
        refine lv_if_eq (tgt := 424) hx hb dL_law_417 (by decide) (fun c_417 => ?_) (fun c_417 => ?_)
        rotate_left
        · exact absurd hxf c_417
        refine lv_iconst (v := 0) hx hb dL_law_424 (by decide) ?_
        refine lv_aload_n hx hb dL_law_425 rfl (lv_at hl 2 rfl) ?_
        refine lw_w (Wc := (LCh cy a s9 s9)) (Wn := (LCh cy a S9 s9)) hC (w_setPlug_ok l G cy kS vS a.aX a.na a.tr a.sn s9.hs a.hi a.sc s9.ep s9.fc a.ob a.hA s9.nx s9.ct a.ra s9.ρ s9.σ (bx (xs (4 * q + 1))) 0 a.oA s9.fo hI.1.1 hnx hct hj rfl (by rw [← e1]; exact z0)) (vx_cwSW 4 hC.S9.2.2.2.2 gL_law_L_setPlug rfl rfl rfl (by decide +kernel) ⟨Nat.le_of_ble_eq_true rfl, Nat.le_of_ble_eq_true rfl⟩) [0, 1, 4, 5, 6, 24] rfl (by decide) (SameL.cons SameA.rf (SameL.cons SameA.st (SameL.cons SameA.one (SameL.cons SameA.rf (SameL.cons SameA.ring (SameL.cons SameA.one SameL.nil)))))) (by subst eS; rfl) hP hD hS rfl hl.1 rfl (Nat.le_of_ble_eq_true rfl) ⟨hc0, hs0⟩ dL_law_426 (fun H locs hP hD hS => ?_)
        refine lv_istore (lv' := [(6, .int 0), (5, .int (nI (4 * q))), (4, .ref a.oD), (3, .ref a.oA), (2, .ref a.am), (1, .ref a.aX), (0, .ref b)]) hx hb dL_law_429 hl (by decide) rfl (fun ls hl => ?_)
        refine lv_aload_n hx hb dL_law_431 rfl (lv_at hl 4 rfl) ?_
        refine lv_aload_n hx hb dL_law_432 rfl (lv_at hl 6 rfl) ?_
        refine lv_iload hx hb dL_law_433 (lv_at hl 1 rfl) ?_
        refine lv_iconst (v := 1) hx hb dL_law_435 (by decide) ?_
        refine lv_iadd hx hb dL_law_436 ?_
        refine m_sld (v := xs (4 * q + 1)) hx hb hC.hX hC.hbl hC.hbA hS (k := 4 * q + 1) (m_add rfl rfl) (by omega) hC.hL rfl dL_law_437 ?_
        refine lv_aload_n hx hb dL_law_438 rfl (lv_at hl 6 rfl) ?_
        refine lv_iload hx hb dL_law_439 (lv_at hl 1 rfl) ?_
        refine lv_iconst (v := 2) hx hb dL_law_441 (by decide) ?_
        refine lv_iadd hx hb dL_law_442 ?_
        refine m_sld (v := xs (4 * q + 2)) hx hb hC.hX hC.hbl hC.hbA hS (k := 4 * q + 2) (m_add rfl rfl) (by omega) hC.hL rfl dL_law_443 ?_
        refine lv_if_eq (tgt := 451) hx hb dL_law_444 (by decide) (fun c_444 => ?_) (fun c_444 => ?_)
        rotate_left
        · exact absurd hxf c_444
        refine lv_iconst (v := 0) hx hb dL_law_451 (by decide) ?_
        refine lw_m (s1 := S9) (t1 := s9) (Wn := (LCh cy a S9 S9)) hC (c_X8_setPlug_ok l G cy a.am a.aS a.aBf a.aAs a.aSv a.aPa a.aOu a.aTx a.aCo s9.ct s9.nb s9.LN ((s9.x0).1) s9.CM s9.hs s9.th (bI (s9.x0).2) s9.ep s9.fc s9.σ (xs (4 * q + 1)) 0 s9.fB s9.fP hI.1.1 hct hj z0) (cwV 2 hC.S9.2.2.2.2 gL_law_X8_setPlug rfl rfl rfl (by decide +kernel) ⟨Nat.le_of_ble_eq_true rfl, Nat.le_of_ble_eq_true rfl⟩) [15, 16, 17, 20] rfl (by decide) (SameR.cons (SameR.cons (SameR.cons (SameR.cons SameR.nil)))) (by subst eS; rfl) hP hD hS rfl hl.1 rfl (Nat.le_of_ble_eq_true rfl) ⟨hcn, hsn⟩ dL_law_452 (fun H locs hP hD hS => ?_)
        refine lv_istore (lv' := [(7, .int (if pB s9.σ (bx (xs (4 * q + 1))) = 0 then 0 else 1)), (6, .int 0), (5, .int (nI (4 * q))), (4, .ref a.oD), (3, .ref a.oA), (2, .ref a.am), (1, .ref a.aX), (0, .ref b)]) hx hb dL_law_455 hl (by decide) rfl (fun ls hl => ?_)
        refine lv_aload_n hx hb dL_law_457 rfl (lv_at hl 5 rfl) ?_
        refine lw_thrown (s1 := S9) (t1 := S9) (k := 0) hC hP (by subst eS; rfl) hl.1 (Nat.le_of_ble_eq_true rfl) ⟨hcn, hsn⟩ dL_law_458 ?_
        refine lv_iload hx hb dL_law_461 (lv_at hl 1 rfl) ?_
        refine lv_icmp_eq (tgt := 468) hx hb dL_law_463 (by decide) (fun c_463 => ?_) (fun c_463 => ?_)
        rotate_left
        · exact absurd c_463 (by decide)
        refine lv_iload hx hb dL_law_468 (lv_at hl 1 rfl) ?_
        refine lv_if_ne (tgt := 492) hx hb dL_law_470 (by decide) (fun c_470 => ?_) (fun c_470 => ?_)
        · exact absurd c_470 (by decide)
        refine lv_aload_n hx hb dL_law_473 rfl (lv_at hl 4 rfl) ?_
        refine lv_iconst (v := 0) hx hb dL_law_474 (by decide) ?_
        refine lw_ldL (s1 := S9) (t1 := S9) (x := vL (pB s9.σ (bx (xs (4 * q + 1))))) hC hP (by subst eS; rfl) dL_law_475 ?_
        refine lv_iload hx hb dL_law_476 (lv_at hl 0 rfl) ?_
        refine lv_if_eq (tgt := 485) hx hb dL_law_478 (by decide) (fun c_478 => ?_) (fun c_478 => ?_)
        rotate_left
        · exact absurd (if_pos hz) c_478
        refine lv_lconst (v := 0) hx hb dL_law_485 (by decide) ?_
        refine m_lcmp0 hx hb (if_pos hz) dL_law_486 ?_
        refine lv_if_eq (tgt := 492) hx hb dL_law_487 (by decide) (fun c_487 => ?_) (fun c_487 => ?_)
        rotate_left
        · exact absurd c_487 (by decide)
        refine lv_goto (tgt := 2890) hx hb dL_law_492 (by decide) ?_
        refine W.widen (k := cells + 1) (n := slots + 6) (by omega) (by omega) ?_
        exact kk S9 H locs ls (LI.of (LI.push hI ((inv_pluS hI.1 rfl).mono (by omega))) (by subst eS; rfl) (by subst eS; rfl) (by subst eS; rfl) (by subst eS; rfl) (by subst eS; rfl) (by subst eS; rfl) (by subst eS; rfl) (by subst eS; rfl) (by subst eS; rfl) (by subst eS; rfl) (by subst eS; rfl) (by subst eS; rfl) (by subst eS; rfl) (by subst eS; rfl) (by subst eS; rfl)) hP hD hS (lv_sub hl [2, 3, 4, 5, 6, 7] rfl)
      · obtain ⟨S9, eS⟩ : ∃ z : LwS, z = (LwS.mk (pluS (bx (xs (4 * q + 1))) 0 s9.σ) s9.υ s9.ς s9.hs s9.ep s9.fc s9.ml 0 ((s9.nx + 1) % 8) (kInc s9.ct) s9.nb s9.n s9.LN s9.CM (updR s9.ρ s9.nx s9.σ) s9.x s9.x0 s9.f s9.gk s9.g1 s9.g2 s9.g3 s9.fb (encS s9.σ) s9.fA s9.fV (pastP s9.ct s9.fP (encS s9.σ)) s9.fO s9.g (fun _ => vL (pB s9.σ (bx (xs (4 * q + 1))))) s9.fd) := ⟨_, rfl⟩
        refine lv_aload_n hx hb dL_law_404 rfl (lv_at hl 4 rfl) ?_
        refine lv_aload_n hx hb dL_law_405 rfl (lv_at hl 5 rfl) ?_
        refine lv_iload hx hb dL_law_406 (lv_at hl 0 rfl) ?_
        refine lv_iconst (v := 1) hx hb dL_law_408 (by decide) ?_
        refine lv_iadd hx hb dL_law_409 ?_
        refine m_sld (v := nI (bx (xs (4 * q + 1)))) hx hb hC.hX hC.hbl hC.hbA hS (k := 4 * q + 1) (m_add rfl rfl) (by omega) hC.hL e1 dL_law_410 ?_
        refine lv_aload_n hx hb dL_law_411 rfl (lv_at hl 5 rfl) ?_
        refine lv_iload hx hb dL_law_412 (lv_at hl 0 rfl) ?_
        refine lv_iconst (v := 2) hx hb dL_law_414 (by decide) ?_
        refine lv_iadd hx hb dL_law_415 ?_
        refine m_sld (v := xs (4 * q + 2)) hx hb hC.hX hC.hbl hC.hbA hS (k := 4 * q + 2) (m_add rfl rfl) (by omega) hC.hL rfl dL_law_416 ?_
        refine lv_if_eq (tgt := 424) hx hb dL_law_417 (by decide) (fun c_417 => ?_) (fun c_417 => ?_)
        rotate_left
        · exact absurd hxf c_417
        refine lv_iconst (v := 0) hx hb dL_law_424 (by decide) ?_
        refine lv_aload_n hx hb dL_law_425 rfl (lv_at hl 2 rfl) ?_
        refine lw_w (Wc := (LCh cy a s9 s9)) (Wn := (LCh cy a S9 s9)) hC (w_setPlug_ok l G cy kS vS a.aX a.na a.tr a.sn s9.hs a.hi a.sc s9.ep s9.fc a.ob a.hA s9.nx s9.ct a.ra s9.ρ s9.σ (bx (xs (4 * q + 1))) 0 a.oA s9.fo hI.1.1 hnx hct hj rfl (by rw [← e1]; exact z0)) (vx_cwSW 4 hC.S9.2.2.2.2 gL_law_L_setPlug rfl rfl rfl (by decide +kernel) ⟨Nat.le_of_ble_eq_true rfl, Nat.le_of_ble_eq_true rfl⟩) [0, 1, 4, 5, 6, 24] rfl (by decide) (SameL.cons SameA.rf (SameL.cons SameA.st (SameL.cons SameA.one (SameL.cons SameA.rf (SameL.cons SameA.ring (SameL.cons SameA.one SameL.nil)))))) (by subst eS; rfl) hP hD hS rfl hl.1 rfl (Nat.le_of_ble_eq_true rfl) ⟨hc0, hs0⟩ dL_law_426 (fun H locs hP hD hS => ?_)
        refine lv_istore (lv' := [(6, .int 0), (5, .int (nI (4 * q))), (4, .ref a.oD), (3, .ref a.oA), (2, .ref a.am), (1, .ref a.aX), (0, .ref b)]) hx hb dL_law_429 hl (by decide) rfl (fun ls hl => ?_)
        refine lv_aload_n hx hb dL_law_431 rfl (lv_at hl 4 rfl) ?_
        refine lv_aload_n hx hb dL_law_432 rfl (lv_at hl 6 rfl) ?_
        refine lv_iload hx hb dL_law_433 (lv_at hl 1 rfl) ?_
        refine lv_iconst (v := 1) hx hb dL_law_435 (by decide) ?_
        refine lv_iadd hx hb dL_law_436 ?_
        refine m_sld (v := xs (4 * q + 1)) hx hb hC.hX hC.hbl hC.hbA hS (k := 4 * q + 1) (m_add rfl rfl) (by omega) hC.hL rfl dL_law_437 ?_
        refine lv_aload_n hx hb dL_law_438 rfl (lv_at hl 6 rfl) ?_
        refine lv_iload hx hb dL_law_439 (lv_at hl 1 rfl) ?_
        refine lv_iconst (v := 2) hx hb dL_law_441 (by decide) ?_
        refine lv_iadd hx hb dL_law_442 ?_
        refine m_sld (v := xs (4 * q + 2)) hx hb hC.hX hC.hbl hC.hbA hS (k := 4 * q + 2) (m_add rfl rfl) (by omega) hC.hL rfl dL_law_443 ?_
        refine lv_if_eq (tgt := 451) hx hb dL_law_444 (by decide) (fun c_444 => ?_) (fun c_444 => ?_)
        rotate_left
        · exact absurd hxf c_444
        refine lv_iconst (v := 0) hx hb dL_law_451 (by decide) ?_
        refine lw_m (s1 := S9) (t1 := s9) (Wn := (LCh cy a S9 S9)) hC (c_X8_setPlug_ok l G cy a.am a.aS a.aBf a.aAs a.aSv a.aPa a.aOu a.aTx a.aCo s9.ct s9.nb s9.LN ((s9.x0).1) s9.CM s9.hs s9.th (bI (s9.x0).2) s9.ep s9.fc s9.σ (xs (4 * q + 1)) 0 s9.fB s9.fP hI.1.1 hct hj z0) (cwV 2 hC.S9.2.2.2.2 gL_law_X8_setPlug rfl rfl rfl (by decide +kernel) ⟨Nat.le_of_ble_eq_true rfl, Nat.le_of_ble_eq_true rfl⟩) [15, 16, 17, 20] rfl (by decide) (SameR.cons (SameR.cons (SameR.cons (SameR.cons SameR.nil)))) (by subst eS; rfl) hP hD hS rfl hl.1 rfl (Nat.le_of_ble_eq_true rfl) ⟨hcn, hsn⟩ dL_law_452 (fun H locs hP hD hS => ?_)
        refine lv_istore (lv' := [(7, .int (if pB s9.σ (bx (xs (4 * q + 1))) = 0 then 0 else 1)), (6, .int 0), (5, .int (nI (4 * q))), (4, .ref a.oD), (3, .ref a.oA), (2, .ref a.am), (1, .ref a.aX), (0, .ref b)]) hx hb dL_law_455 hl (by decide) rfl (fun ls hl => ?_)
        refine lv_aload_n hx hb dL_law_457 rfl (lv_at hl 5 rfl) ?_
        refine lw_thrown (s1 := S9) (t1 := S9) (k := 0) hC hP (by subst eS; rfl) hl.1 (Nat.le_of_ble_eq_true rfl) ⟨hcn, hsn⟩ dL_law_458 ?_
        refine lv_iload hx hb dL_law_461 (lv_at hl 1 rfl) ?_
        refine lv_icmp_eq (tgt := 468) hx hb dL_law_463 (by decide) (fun c_463 => ?_) (fun c_463 => ?_)
        rotate_left
        · exact absurd c_463 (by decide)
        refine lv_iload hx hb dL_law_468 (lv_at hl 1 rfl) ?_
        refine lv_if_ne (tgt := 492) hx hb dL_law_470 (by decide) (fun c_470 => ?_) (fun c_470 => ?_)
        · exact absurd c_470 (by decide)
        refine lv_aload_n hx hb dL_law_473 rfl (lv_at hl 4 rfl) ?_
        refine lv_iconst (v := 0) hx hb dL_law_474 (by decide) ?_
        refine lw_ldL (s1 := S9) (t1 := S9) (x := vL (pB s9.σ (bx (xs (4 * q + 1))))) hC hP (by subst eS; rfl) dL_law_475 ?_
        refine lv_iload hx hb dL_law_476 (lv_at hl 0 rfl) ?_
        refine lv_if_eq (tgt := 485) hx hb dL_law_478 (by decide) (fun c_478 => ?_) (fun c_478 => ?_)
        · exact absurd c_478 (by rw [if_neg hz]; decide)
        refine lv_lconst (v := 1) hx hb dL_law_481 (by decide) ?_
        refine lv_goto (tgt := 486) hx hb dL_law_482 (by decide) ?_
        refine m_lcmp0 hx hb (if_neg hz) dL_law_486 ?_
        refine lv_if_eq (tgt := 492) hx hb dL_law_487 (by decide) (fun c_487 => ?_) (fun c_487 => ?_)
        rotate_left
        · exact absurd c_487 (by decide)
        refine lv_goto (tgt := 2890) hx hb dL_law_492 (by decide) ?_
        refine W.widen (k := cells + 1) (n := slots + 6) (by omega) (by omega) ?_
        exact kk S9 H locs ls (LI.of (LI.push hI ((inv_pluS hI.1 rfl).mono (by omega))) (by subst eS; rfl) (by subst eS; rfl) (by subst eS; rfl) (by subst eS; rfl) (by subst eS; rfl) (by subst eS; rfl) (by subst eS; rfl) (by subst eS; rfl) (by subst eS; rfl) (by subst eS; rfl) (by subst eS; rfl) (by subst eS; rfl) (by subst eS; rfl) (by subst eS; rfl) (by subst eS; rfl)) hP hD hS (lv_sub hl [2, 3, 4, 5, 6, 7] rfl)
    · obtain ⟨S9, eS⟩ : ∃ z : LwS, z = (LwS.mk s9.σ s9.υ s9.ς s9.hs s9.ep s9.fc s9.ml (plgF (nB s9.σ) (xs (4 * q + 1))) s9.nx s9.ct s9.nb s9.n s9.LN s9.CM s9.ρ s9.x s9.x0 s9.f s9.gk s9.g1 s9.g2 s9.g3 s9.fb (encS s9.σ) s9.fA s9.fV s9.fP s9.fO s9.g s9.fo s9.fd) := ⟨_, rfl⟩
      refine lv_aload_n hx hb dL_law_404 rfl (lv_at hl 4 rfl) ?_
      refine lv_aload_n hx hb dL_law_405 rfl (lv_at hl 5 rfl) ?_
      refine lv_iload hx hb dL_law_406 (lv_at hl 0 rfl) ?_
      refine lv_iconst (v := 1) hx hb dL_law_408 (by decide) ?_
      refine lv_iadd hx hb dL_law_409 ?_
      refine m_sld (v := xs (4 * q + 1)) hx hb hC.hX hC.hbl hC.hbA hS (k := 4 * q + 1) (m_add rfl rfl) (by omega) hC.hL rfl dL_law_410 ?_
      refine lv_aload_n hx hb dL_law_411 rfl (lv_at hl 5 rfl) ?_
      refine lv_iload hx hb dL_law_412 (lv_at hl 0 rfl) ?_
      refine lv_iconst (v := 2) hx hb dL_law_414 (by decide) ?_
      refine lv_iadd hx hb dL_law_415 ?_
      refine m_sld (v := xs (4 * q + 2)) hx hb hC.hX hC.hbl hC.hbA hS (k := 4 * q + 2) (m_add rfl rfl) (by omega) hC.hL rfl dL_law_416 ?_
      refine lv_if_eq (tgt := 424) hx hb dL_law_417 (by decide) (fun c_417 => ?_) (fun c_417 => ?_)
      rotate_left
      · exact absurd hxf c_417
      refine lv_iconst (v := 0) hx hb dL_law_424 (by decide) ?_
      refine lv_aload_n hx hb dL_law_425 rfl (lv_at hl 2 rfl) ?_
      refine lw_w (Wc := (LCh cy a s9 s9)) (Wn := (LCh cy a S9 s9)) hC (w_setPlug_1 l G cy kS vS a.aX a.na a.tr a.sn s9.hs a.hi a.sc s9.ep s9.fc a.ob s9.σ (xs (4 * q + 1)) 0 a.oA s9.fo hC.hl9 hI.1.1 z1) (vx_cwSW 4 hC.S9.2.2.2.2 gL_law_L_setPlug rfl rfl rfl (by decide +kernel) ⟨Nat.le_of_ble_eq_true rfl, Nat.le_of_ble_eq_true rfl⟩) [0, 1, 24] rfl (by decide) (SameL.cons SameA.rf (SameL.cons SameA.rf (SameL.cons SameA.rf SameL.nil))) (by subst eS; rfl) hP hD hS rfl hl.1 rfl (Nat.le_of_ble_eq_true rfl) ⟨hc1, hs1⟩ dL_law_426 (fun H locs hP hD hS => ?_)
      refine lv_istore (lv' := [(6, .int 1), (5, .int (nI (4 * q))), (4, .ref a.oD), (3, .ref a.oA), (2, .ref a.am), (1, .ref a.aX), (0, .ref b)]) hx hb dL_law_429 hl (by decide) rfl (fun ls hl => ?_)
      refine lv_aload_n hx hb dL_law_431 rfl (lv_at hl 4 rfl) ?_
      refine lv_aload_n hx hb dL_law_432 rfl (lv_at hl 6 rfl) ?_
      refine lv_iload hx hb dL_law_433 (lv_at hl 1 rfl) ?_
      refine lv_iconst (v := 1) hx hb dL_law_435 (by decide) ?_
      refine lv_iadd hx hb dL_law_436 ?_
      refine m_sld (v := xs (4 * q + 1)) hx hb hC.hX hC.hbl hC.hbA hS (k := 4 * q + 1) (m_add rfl rfl) (by omega) hC.hL rfl dL_law_437 ?_
      refine lv_aload_n hx hb dL_law_438 rfl (lv_at hl 6 rfl) ?_
      refine lv_iload hx hb dL_law_439 (lv_at hl 1 rfl) ?_
      refine lv_iconst (v := 2) hx hb dL_law_441 (by decide) ?_
      refine lv_iadd hx hb dL_law_442 ?_
      refine m_sld (v := xs (4 * q + 2)) hx hb hC.hX hC.hbl hC.hbA hS (k := 4 * q + 2) (m_add rfl rfl) (by omega) hC.hL rfl dL_law_443 ?_
      refine lv_if_eq (tgt := 451) hx hb dL_law_444 (by decide) (fun c_444 => ?_) (fun c_444 => ?_)
      rotate_left
      · exact absurd hxf c_444
      refine lv_iconst (v := 0) hx hb dL_law_451 (by decide) ?_
      refine lw_m (s1 := S9) (t1 := s9) (Wn := (LCh cy a S9 S9)) hC (c_X8_setPlug_no l G cy a.am a.aS a.aBf a.aAs a.aSv a.aPa a.aOu a.aTx a.aCo s9.ct s9.nb s9.LN ((s9.x0).1) s9.CM s9.hs s9.th (bI (s9.x0).2) s9.ep s9.fc s9.σ (xs (4 * q + 1)) 0 s9.fB hI.1.1 (by rw [z1]; decide) (by rw [z1]; decide)) (cwV 2 hC.S9.2.2.2.2 gL_law_X8_setPlug rfl rfl rfl (by decide +kernel) ⟨Nat.le_of_ble_eq_true rfl, Nat.le_of_ble_eq_true rfl⟩) [15, 16, 17] rfl (by decide) (SameR.cons (SameR.cons (SameR.cons SameR.nil))) (by subst eS; rfl) hP hD hS rfl hl.1 rfl (Nat.le_of_ble_eq_true rfl) ⟨hc1, hs1⟩ dL_law_452 (fun H locs hP hD hS => ?_)
      refine lv_istore (lv' := [(7, .int 0), (6, .int 1), (5, .int (nI (4 * q))), (4, .ref a.oD), (3, .ref a.oA), (2, .ref a.am), (1, .ref a.aX), (0, .ref b)]) hx hb dL_law_455 hl (by decide) rfl (fun ls hl => ?_)
      refine lv_aload_n hx hb dL_law_457 rfl (lv_at hl 5 rfl) ?_
      refine lw_thrown (s1 := S9) (t1 := S9) (k := plgF (nB s9.σ) (xs (4 * q + 1))) hC hP (by subst eS; rfl) hl.1 (Nat.le_of_ble_eq_true rfl) ⟨hc1, hs1⟩ dL_law_458 ?_
      refine lv_iload hx hb dL_law_461 (lv_at hl 1 rfl) ?_
      refine lv_icmp_eq (tgt := 468) hx hb dL_law_463 (by decide) (fun c_463 => ?_) (fun c_463 => ?_)
      rotate_left
      · exact absurd z1 c_463
      refine lv_iload hx hb dL_law_468 (lv_at hl 1 rfl) ?_
      refine lv_if_ne (tgt := 492) hx hb dL_law_470 (by decide) (fun c_470 => ?_) (fun c_470 => ?_)
      rotate_left
      · exact absurd c_470 (by decide)
      refine lv_goto (tgt := 2890) hx hb dL_law_492 (by decide) ?_
      exact kk S9 H locs ls (LI.of (LI.mono hI (by omega)) (by subst eS; rfl) (by subst eS; rfl) (by subst eS; rfl) (by subst eS; rfl) (by subst eS; rfl) (by subst eS; rfl) (by subst eS; rfl) (by subst eS; rfl) (by subst eS; rfl) (by subst eS; rfl) (by subst eS; rfl) (by subst eS; rfl) (by subst eS; rfl) (by subst eS; rfl) (by subst eS; rfl)) hP hD hS (lv_sub hl [2, 3, 4, 5, 6, 7] rfl)
  · rcases plgF_v (nB s9.σ) (xs (4 * q + 1)) with z0 | z1
    · obtain ⟨e1, hj⟩ := plgF_0 hN0 z0
      by_cases hz : pB s9.σ (bx (xs (4 * q + 1))) = 0
      · obtain ⟨S9, eS⟩ : ∃ z : LwS, z = (LwS.mk (pluS (bx (xs (4 * q + 1))) 1 s9.σ) s9.υ s9.ς s9.hs s9.ep s9.fc s9.ml 0 ((s9.nx + 1) % 8) (kInc s9.ct) s9.nb s9.n s9.LN s9.CM (updR s9.ρ s9.nx s9.σ) s9.x s9.x0 s9.f s9.gk s9.g1 s9.g2 s9.g3 s9.fb (encS s9.σ) s9.fA s9.fV (pastP s9.ct s9.fP (encS s9.σ)) s9.fO s9.g (fun _ => vL (pB s9.σ (bx (xs (4 * q + 1))))) s9.fd) := ⟨_, rfl⟩
        refine lv_aload_n hx hb dL_law_404 rfl (lv_at hl 4 rfl) ?_
        refine lv_aload_n hx hb dL_law_405 rfl (lv_at hl 5 rfl) ?_
        refine lv_iload hx hb dL_law_406 (lv_at hl 0 rfl) ?_
        refine lv_iconst (v := 1) hx hb dL_law_408 (by decide) ?_
        refine lv_iadd hx hb dL_law_409 ?_
        refine m_sld (v := nI (bx (xs (4 * q + 1)))) hx hb hC.hX hC.hbl hC.hbA hS (k := 4 * q + 1) (m_add rfl rfl) (by omega) hC.hL e1 dL_law_410 ?_
        refine lv_aload_n hx hb dL_law_411 rfl (lv_at hl 5 rfl) ?_
        refine lv_iload hx hb dL_law_412 (lv_at hl 0 rfl) ?_
        refine lv_iconst (v := 2) hx hb dL_law_414 (by decide) ?_
        refine lv_iadd hx hb dL_law_415 ?_
        refine m_sld (v := xs (4 * q + 2)) hx hb hC.hX hC.hbl hC.hbA hS (k := 4 * q + 2) (m_add rfl rfl) (by omega) hC.hL rfl dL_law_416 ?_
        refine lv_if_eq (tgt := 424) hx hb dL_law_417 (by decide) (fun c_417 => ?_) (fun c_417 => ?_)
        · exact absurd c_417 hxf
        refine lv_iconst (v := 1) hx hb dL_law_420 (by decide) ?_
        refine lv_goto (tgt := 425) hx hb dL_law_421 (by decide) ?_
        refine lv_aload_n hx hb dL_law_425 rfl (lv_at hl 2 rfl) ?_
        refine lw_w (Wc := (LCh cy a s9 s9)) (Wn := (LCh cy a S9 s9)) hC (w_setPlug_ok l G cy kS vS a.aX a.na a.tr a.sn s9.hs a.hi a.sc s9.ep s9.fc a.ob a.hA s9.nx s9.ct a.ra s9.ρ s9.σ (bx (xs (4 * q + 1))) 1 a.oA s9.fo hI.1.1 hnx hct hj rfl (by rw [← e1]; exact z0)) (vx_cwSW 4 hC.S9.2.2.2.2 gL_law_L_setPlug rfl rfl rfl (by decide +kernel) ⟨Nat.le_of_ble_eq_true rfl, Nat.le_of_ble_eq_true rfl⟩) [0, 1, 4, 5, 6, 24] rfl (by decide) (SameL.cons SameA.rf (SameL.cons SameA.st (SameL.cons SameA.one (SameL.cons SameA.rf (SameL.cons SameA.ring (SameL.cons SameA.one SameL.nil)))))) (by subst eS; rfl) hP hD hS rfl hl.1 rfl (Nat.le_of_ble_eq_true rfl) ⟨hc0, hs0⟩ dL_law_426 (fun H locs hP hD hS => ?_)
        refine lv_istore (lv' := [(6, .int 0), (5, .int (nI (4 * q))), (4, .ref a.oD), (3, .ref a.oA), (2, .ref a.am), (1, .ref a.aX), (0, .ref b)]) hx hb dL_law_429 hl (by decide) rfl (fun ls hl => ?_)
        refine lv_aload_n hx hb dL_law_431 rfl (lv_at hl 4 rfl) ?_
        refine lv_aload_n hx hb dL_law_432 rfl (lv_at hl 6 rfl) ?_
        refine lv_iload hx hb dL_law_433 (lv_at hl 1 rfl) ?_
        refine lv_iconst (v := 1) hx hb dL_law_435 (by decide) ?_
        refine lv_iadd hx hb dL_law_436 ?_
        refine m_sld (v := xs (4 * q + 1)) hx hb hC.hX hC.hbl hC.hbA hS (k := 4 * q + 1) (m_add rfl rfl) (by omega) hC.hL rfl dL_law_437 ?_
        refine lv_aload_n hx hb dL_law_438 rfl (lv_at hl 6 rfl) ?_
        refine lv_iload hx hb dL_law_439 (lv_at hl 1 rfl) ?_
        refine lv_iconst (v := 2) hx hb dL_law_441 (by decide) ?_
        refine lv_iadd hx hb dL_law_442 ?_
        refine m_sld (v := xs (4 * q + 2)) hx hb hC.hX hC.hbl hC.hbA hS (k := 4 * q + 2) (m_add rfl rfl) (by omega) hC.hL rfl dL_law_443 ?_
        refine lv_if_eq (tgt := 451) hx hb dL_law_444 (by decide) (fun c_444 => ?_) (fun c_444 => ?_)
        · exact absurd c_444 hxf
        refine lv_iconst (v := 1) hx hb dL_law_447 (by decide) ?_
        refine lv_goto (tgt := 452) hx hb dL_law_448 (by decide) ?_
        refine lw_m (s1 := S9) (t1 := s9) (Wn := (LCh cy a S9 S9)) hC (c_X8_setPlug_ok l G cy a.am a.aS a.aBf a.aAs a.aSv a.aPa a.aOu a.aTx a.aCo s9.ct s9.nb s9.LN ((s9.x0).1) s9.CM s9.hs s9.th (bI (s9.x0).2) s9.ep s9.fc s9.σ (xs (4 * q + 1)) 1 s9.fB s9.fP hI.1.1 hct hj z0) (cwV 2 hC.S9.2.2.2.2 gL_law_X8_setPlug rfl rfl rfl (by decide +kernel) ⟨Nat.le_of_ble_eq_true rfl, Nat.le_of_ble_eq_true rfl⟩) [15, 16, 17, 20] rfl (by decide) (SameR.cons (SameR.cons (SameR.cons (SameR.cons SameR.nil)))) (by subst eS; rfl) hP hD hS rfl hl.1 rfl (Nat.le_of_ble_eq_true rfl) ⟨hcn, hsn⟩ dL_law_452 (fun H locs hP hD hS => ?_)
        refine lv_istore (lv' := [(7, .int (if pB s9.σ (bx (xs (4 * q + 1))) = 0 then 0 else 1)), (6, .int 0), (5, .int (nI (4 * q))), (4, .ref a.oD), (3, .ref a.oA), (2, .ref a.am), (1, .ref a.aX), (0, .ref b)]) hx hb dL_law_455 hl (by decide) rfl (fun ls hl => ?_)
        refine lv_aload_n hx hb dL_law_457 rfl (lv_at hl 5 rfl) ?_
        refine lw_thrown (s1 := S9) (t1 := S9) (k := 0) hC hP (by subst eS; rfl) hl.1 (Nat.le_of_ble_eq_true rfl) ⟨hcn, hsn⟩ dL_law_458 ?_
        refine lv_iload hx hb dL_law_461 (lv_at hl 1 rfl) ?_
        refine lv_icmp_eq (tgt := 468) hx hb dL_law_463 (by decide) (fun c_463 => ?_) (fun c_463 => ?_)
        rotate_left
        · exact absurd c_463 (by decide)
        refine lv_iload hx hb dL_law_468 (lv_at hl 1 rfl) ?_
        refine lv_if_ne (tgt := 492) hx hb dL_law_470 (by decide) (fun c_470 => ?_) (fun c_470 => ?_)
        · exact absurd c_470 (by decide)
        refine lv_aload_n hx hb dL_law_473 rfl (lv_at hl 4 rfl) ?_
        refine lv_iconst (v := 0) hx hb dL_law_474 (by decide) ?_
        refine lw_ldL (s1 := S9) (t1 := S9) (x := vL (pB s9.σ (bx (xs (4 * q + 1))))) hC hP (by subst eS; rfl) dL_law_475 ?_
        refine lv_iload hx hb dL_law_476 (lv_at hl 0 rfl) ?_
        refine lv_if_eq (tgt := 485) hx hb dL_law_478 (by decide) (fun c_478 => ?_) (fun c_478 => ?_)
        rotate_left
        · exact absurd (if_pos hz) c_478
        refine lv_lconst (v := 0) hx hb dL_law_485 (by decide) ?_
        refine m_lcmp0 hx hb (if_pos hz) dL_law_486 ?_
        refine lv_if_eq (tgt := 492) hx hb dL_law_487 (by decide) (fun c_487 => ?_) (fun c_487 => ?_)
        rotate_left
        · exact absurd c_487 (by decide)
        refine lv_goto (tgt := 2890) hx hb dL_law_492 (by decide) ?_
        refine W.widen (k := cells + 1) (n := slots + 6) (by omega) (by omega) ?_
        exact kk S9 H locs ls (LI.of (LI.push hI ((inv_pluS hI.1 rfl).mono (by omega))) (by subst eS; rfl) (by subst eS; rfl) (by subst eS; rfl) (by subst eS; rfl) (by subst eS; rfl) (by subst eS; rfl) (by subst eS; rfl) (by subst eS; rfl) (by subst eS; rfl) (by subst eS; rfl) (by subst eS; rfl) (by subst eS; rfl) (by subst eS; rfl) (by subst eS; rfl) (by subst eS; rfl)) hP hD hS (lv_sub hl [2, 3, 4, 5, 6, 7] rfl)
      · obtain ⟨S9, eS⟩ : ∃ z : LwS, z = (LwS.mk (pluS (bx (xs (4 * q + 1))) 1 s9.σ) s9.υ s9.ς s9.hs s9.ep s9.fc s9.ml 0 ((s9.nx + 1) % 8) (kInc s9.ct) s9.nb s9.n s9.LN s9.CM (updR s9.ρ s9.nx s9.σ) s9.x s9.x0 s9.f s9.gk s9.g1 s9.g2 s9.g3 s9.fb (encS s9.σ) s9.fA s9.fV (pastP s9.ct s9.fP (encS s9.σ)) s9.fO s9.g (fun _ => vL (pB s9.σ (bx (xs (4 * q + 1))))) s9.fd) := ⟨_, rfl⟩
        refine lv_aload_n hx hb dL_law_404 rfl (lv_at hl 4 rfl) ?_
        refine lv_aload_n hx hb dL_law_405 rfl (lv_at hl 5 rfl) ?_
        refine lv_iload hx hb dL_law_406 (lv_at hl 0 rfl) ?_
        refine lv_iconst (v := 1) hx hb dL_law_408 (by decide) ?_
        refine lv_iadd hx hb dL_law_409 ?_
        refine m_sld (v := nI (bx (xs (4 * q + 1)))) hx hb hC.hX hC.hbl hC.hbA hS (k := 4 * q + 1) (m_add rfl rfl) (by omega) hC.hL e1 dL_law_410 ?_
        refine lv_aload_n hx hb dL_law_411 rfl (lv_at hl 5 rfl) ?_
        refine lv_iload hx hb dL_law_412 (lv_at hl 0 rfl) ?_
        refine lv_iconst (v := 2) hx hb dL_law_414 (by decide) ?_
        refine lv_iadd hx hb dL_law_415 ?_
        refine m_sld (v := xs (4 * q + 2)) hx hb hC.hX hC.hbl hC.hbA hS (k := 4 * q + 2) (m_add rfl rfl) (by omega) hC.hL rfl dL_law_416 ?_
        refine lv_if_eq (tgt := 424) hx hb dL_law_417 (by decide) (fun c_417 => ?_) (fun c_417 => ?_)
        · exact absurd c_417 hxf
        refine lv_iconst (v := 1) hx hb dL_law_420 (by decide) ?_
        refine lv_goto (tgt := 425) hx hb dL_law_421 (by decide) ?_
        refine lv_aload_n hx hb dL_law_425 rfl (lv_at hl 2 rfl) ?_
        refine lw_w (Wc := (LCh cy a s9 s9)) (Wn := (LCh cy a S9 s9)) hC (w_setPlug_ok l G cy kS vS a.aX a.na a.tr a.sn s9.hs a.hi a.sc s9.ep s9.fc a.ob a.hA s9.nx s9.ct a.ra s9.ρ s9.σ (bx (xs (4 * q + 1))) 1 a.oA s9.fo hI.1.1 hnx hct hj rfl (by rw [← e1]; exact z0)) (vx_cwSW 4 hC.S9.2.2.2.2 gL_law_L_setPlug rfl rfl rfl (by decide +kernel) ⟨Nat.le_of_ble_eq_true rfl, Nat.le_of_ble_eq_true rfl⟩) [0, 1, 4, 5, 6, 24] rfl (by decide) (SameL.cons SameA.rf (SameL.cons SameA.st (SameL.cons SameA.one (SameL.cons SameA.rf (SameL.cons SameA.ring (SameL.cons SameA.one SameL.nil)))))) (by subst eS; rfl) hP hD hS rfl hl.1 rfl (Nat.le_of_ble_eq_true rfl) ⟨hc0, hs0⟩ dL_law_426 (fun H locs hP hD hS => ?_)
        refine lv_istore (lv' := [(6, .int 0), (5, .int (nI (4 * q))), (4, .ref a.oD), (3, .ref a.oA), (2, .ref a.am), (1, .ref a.aX), (0, .ref b)]) hx hb dL_law_429 hl (by decide) rfl (fun ls hl => ?_)
        refine lv_aload_n hx hb dL_law_431 rfl (lv_at hl 4 rfl) ?_
        refine lv_aload_n hx hb dL_law_432 rfl (lv_at hl 6 rfl) ?_
        refine lv_iload hx hb dL_law_433 (lv_at hl 1 rfl) ?_
        refine lv_iconst (v := 1) hx hb dL_law_435 (by decide) ?_
        refine lv_iadd hx hb dL_law_436 ?_
        refine m_sld (v := xs (4 * q + 1)) hx hb hC.hX hC.hbl hC.hbA hS (k := 4 * q + 1) (m_add rfl rfl) (by omega) hC.hL rfl dL_law_437 ?_
        refine lv_aload_n hx hb dL_law_438 rfl (lv_at hl 6 rfl) ?_
        refine lv_iload hx hb dL_law_439 (lv_at hl 1 rfl) ?_
        refine lv_iconst (v := 2) hx hb dL_law_441 (by decide) ?_
        refine lv_iadd hx hb dL_law_442 ?_
        refine m_sld (v := xs (4 * q + 2)) hx hb hC.hX hC.hbl hC.hbA hS (k := 4 * q + 2) (m_add rfl rfl) (by omega) hC.hL rfl dL_law_443 ?_
        refine lv_if_eq (tgt := 451) hx hb dL_law_444 (by decide) (fun c_444 => ?_) (fun c_444 => ?_)
        · exact absurd c_444 hxf
        refine lv_iconst (v := 1) hx hb dL_law_447 (by decide) ?_
        refine lv_goto (tgt := 452) hx hb dL_law_448 (by decide) ?_
        refine lw_m (s1 := S9) (t1 := s9) (Wn := (LCh cy a S9 S9)) hC (c_X8_setPlug_ok l G cy a.am a.aS a.aBf a.aAs a.aSv a.aPa a.aOu a.aTx a.aCo s9.ct s9.nb s9.LN ((s9.x0).1) s9.CM s9.hs s9.th (bI (s9.x0).2) s9.ep s9.fc s9.σ (xs (4 * q + 1)) 1 s9.fB s9.fP hI.1.1 hct hj z0) (cwV 2 hC.S9.2.2.2.2 gL_law_X8_setPlug rfl rfl rfl (by decide +kernel) ⟨Nat.le_of_ble_eq_true rfl, Nat.le_of_ble_eq_true rfl⟩) [15, 16, 17, 20] rfl (by decide) (SameR.cons (SameR.cons (SameR.cons (SameR.cons SameR.nil)))) (by subst eS; rfl) hP hD hS rfl hl.1 rfl (Nat.le_of_ble_eq_true rfl) ⟨hcn, hsn⟩ dL_law_452 (fun H locs hP hD hS => ?_)
        refine lv_istore (lv' := [(7, .int (if pB s9.σ (bx (xs (4 * q + 1))) = 0 then 0 else 1)), (6, .int 0), (5, .int (nI (4 * q))), (4, .ref a.oD), (3, .ref a.oA), (2, .ref a.am), (1, .ref a.aX), (0, .ref b)]) hx hb dL_law_455 hl (by decide) rfl (fun ls hl => ?_)
        refine lv_aload_n hx hb dL_law_457 rfl (lv_at hl 5 rfl) ?_
        refine lw_thrown (s1 := S9) (t1 := S9) (k := 0) hC hP (by subst eS; rfl) hl.1 (Nat.le_of_ble_eq_true rfl) ⟨hcn, hsn⟩ dL_law_458 ?_
        refine lv_iload hx hb dL_law_461 (lv_at hl 1 rfl) ?_
        refine lv_icmp_eq (tgt := 468) hx hb dL_law_463 (by decide) (fun c_463 => ?_) (fun c_463 => ?_)
        rotate_left
        · exact absurd c_463 (by decide)
        refine lv_iload hx hb dL_law_468 (lv_at hl 1 rfl) ?_
        refine lv_if_ne (tgt := 492) hx hb dL_law_470 (by decide) (fun c_470 => ?_) (fun c_470 => ?_)
        · exact absurd c_470 (by decide)
        refine lv_aload_n hx hb dL_law_473 rfl (lv_at hl 4 rfl) ?_
        refine lv_iconst (v := 0) hx hb dL_law_474 (by decide) ?_
        refine lw_ldL (s1 := S9) (t1 := S9) (x := vL (pB s9.σ (bx (xs (4 * q + 1))))) hC hP (by subst eS; rfl) dL_law_475 ?_
        refine lv_iload hx hb dL_law_476 (lv_at hl 0 rfl) ?_
        refine lv_if_eq (tgt := 485) hx hb dL_law_478 (by decide) (fun c_478 => ?_) (fun c_478 => ?_)
        · exact absurd c_478 (by rw [if_neg hz]; decide)
        refine lv_lconst (v := 1) hx hb dL_law_481 (by decide) ?_
        refine lv_goto (tgt := 486) hx hb dL_law_482 (by decide) ?_
        refine m_lcmp0 hx hb (if_neg hz) dL_law_486 ?_
        refine lv_if_eq (tgt := 492) hx hb dL_law_487 (by decide) (fun c_487 => ?_) (fun c_487 => ?_)
        rotate_left
        · exact absurd c_487 (by decide)
        refine lv_goto (tgt := 2890) hx hb dL_law_492 (by decide) ?_
        refine W.widen (k := cells + 1) (n := slots + 6) (by omega) (by omega) ?_
        exact kk S9 H locs ls (LI.of (LI.push hI ((inv_pluS hI.1 rfl).mono (by omega))) (by subst eS; rfl) (by subst eS; rfl) (by subst eS; rfl) (by subst eS; rfl) (by subst eS; rfl) (by subst eS; rfl) (by subst eS; rfl) (by subst eS; rfl) (by subst eS; rfl) (by subst eS; rfl) (by subst eS; rfl) (by subst eS; rfl) (by subst eS; rfl) (by subst eS; rfl) (by subst eS; rfl)) hP hD hS (lv_sub hl [2, 3, 4, 5, 6, 7] rfl)
    · obtain ⟨S9, eS⟩ : ∃ z : LwS, z = (LwS.mk s9.σ s9.υ s9.ς s9.hs s9.ep s9.fc s9.ml (plgF (nB s9.σ) (xs (4 * q + 1))) s9.nx s9.ct s9.nb s9.n s9.LN s9.CM s9.ρ s9.x s9.x0 s9.f s9.gk s9.g1 s9.g2 s9.g3 s9.fb (encS s9.σ) s9.fA s9.fV s9.fP s9.fO s9.g s9.fo s9.fd) := ⟨_, rfl⟩
      refine lv_aload_n hx hb dL_law_404 rfl (lv_at hl 4 rfl) ?_
      refine lv_aload_n hx hb dL_law_405 rfl (lv_at hl 5 rfl) ?_
      refine lv_iload hx hb dL_law_406 (lv_at hl 0 rfl) ?_
      refine lv_iconst (v := 1) hx hb dL_law_408 (by decide) ?_
      refine lv_iadd hx hb dL_law_409 ?_
      refine m_sld (v := xs (4 * q + 1)) hx hb hC.hX hC.hbl hC.hbA hS (k := 4 * q + 1) (m_add rfl rfl) (by omega) hC.hL rfl dL_law_410 ?_
      refine lv_aload_n hx hb dL_law_411 rfl (lv_at hl 5 rfl) ?_
      refine lv_iload hx hb dL_law_412 (lv_at hl 0 rfl) ?_
      refine lv_iconst (v := 2) hx hb dL_law_414 (by decide) ?_
      refine lv_iadd hx hb dL_law_415 ?_
      refine m_sld (v := xs (4 * q + 2)) hx hb hC.hX hC.hbl hC.hbA hS (k := 4 * q + 2) (m_add rfl rfl) (by omega) hC.hL rfl dL_law_416 ?_
      refine lv_if_eq (tgt := 424) hx hb dL_law_417 (by decide) (fun c_417 => ?_) (fun c_417 => ?_)
      · exact absurd c_417 hxf
      refine lv_iconst (v := 1) hx hb dL_law_420 (by decide) ?_
      refine lv_goto (tgt := 425) hx hb dL_law_421 (by decide) ?_
      refine lv_aload_n hx hb dL_law_425 rfl (lv_at hl 2 rfl) ?_
      refine lw_w (Wc := (LCh cy a s9 s9)) (Wn := (LCh cy a S9 s9)) hC (w_setPlug_1 l G cy kS vS a.aX a.na a.tr a.sn s9.hs a.hi a.sc s9.ep s9.fc a.ob s9.σ (xs (4 * q + 1)) 1 a.oA s9.fo hC.hl9 hI.1.1 z1) (vx_cwSW 4 hC.S9.2.2.2.2 gL_law_L_setPlug rfl rfl rfl (by decide +kernel) ⟨Nat.le_of_ble_eq_true rfl, Nat.le_of_ble_eq_true rfl⟩) [0, 1, 24] rfl (by decide) (SameL.cons SameA.rf (SameL.cons SameA.rf (SameL.cons SameA.rf SameL.nil))) (by subst eS; rfl) hP hD hS rfl hl.1 rfl (Nat.le_of_ble_eq_true rfl) ⟨hc1, hs1⟩ dL_law_426 (fun H locs hP hD hS => ?_)
      refine lv_istore (lv' := [(6, .int 1), (5, .int (nI (4 * q))), (4, .ref a.oD), (3, .ref a.oA), (2, .ref a.am), (1, .ref a.aX), (0, .ref b)]) hx hb dL_law_429 hl (by decide) rfl (fun ls hl => ?_)
      refine lv_aload_n hx hb dL_law_431 rfl (lv_at hl 4 rfl) ?_
      refine lv_aload_n hx hb dL_law_432 rfl (lv_at hl 6 rfl) ?_
      refine lv_iload hx hb dL_law_433 (lv_at hl 1 rfl) ?_
      refine lv_iconst (v := 1) hx hb dL_law_435 (by decide) ?_
      refine lv_iadd hx hb dL_law_436 ?_
      refine m_sld (v := xs (4 * q + 1)) hx hb hC.hX hC.hbl hC.hbA hS (k := 4 * q + 1) (m_add rfl rfl) (by omega) hC.hL rfl dL_law_437 ?_
      refine lv_aload_n hx hb dL_law_438 rfl (lv_at hl 6 rfl) ?_
      refine lv_iload hx hb dL_law_439 (lv_at hl 1 rfl) ?_
      refine lv_iconst (v := 2) hx hb dL_law_441 (by decide) ?_
      refine lv_iadd hx hb dL_law_442 ?_
      refine m_sld (v := xs (4 * q + 2)) hx hb hC.hX hC.hbl hC.hbA hS (k := 4 * q + 2) (m_add rfl rfl) (by omega) hC.hL rfl dL_law_443 ?_
      refine lv_if_eq (tgt := 451) hx hb dL_law_444 (by decide) (fun c_444 => ?_) (fun c_444 => ?_)
      · exact absurd c_444 hxf
      refine lv_iconst (v := 1) hx hb dL_law_447 (by decide) ?_
      refine lv_goto (tgt := 452) hx hb dL_law_448 (by decide) ?_
      refine lw_m (s1 := S9) (t1 := s9) (Wn := (LCh cy a S9 S9)) hC (c_X8_setPlug_no l G cy a.am a.aS a.aBf a.aAs a.aSv a.aPa a.aOu a.aTx a.aCo s9.ct s9.nb s9.LN ((s9.x0).1) s9.CM s9.hs s9.th (bI (s9.x0).2) s9.ep s9.fc s9.σ (xs (4 * q + 1)) 1 s9.fB hI.1.1 (by rw [z1]; decide) (by rw [z1]; decide)) (cwV 2 hC.S9.2.2.2.2 gL_law_X8_setPlug rfl rfl rfl (by decide +kernel) ⟨Nat.le_of_ble_eq_true rfl, Nat.le_of_ble_eq_true rfl⟩) [15, 16, 17] rfl (by decide) (SameR.cons (SameR.cons (SameR.cons SameR.nil))) (by subst eS; rfl) hP hD hS rfl hl.1 rfl (Nat.le_of_ble_eq_true rfl) ⟨hc1, hs1⟩ dL_law_452 (fun H locs hP hD hS => ?_)
      refine lv_istore (lv' := [(7, .int 0), (6, .int 1), (5, .int (nI (4 * q))), (4, .ref a.oD), (3, .ref a.oA), (2, .ref a.am), (1, .ref a.aX), (0, .ref b)]) hx hb dL_law_455 hl (by decide) rfl (fun ls hl => ?_)
      refine lv_aload_n hx hb dL_law_457 rfl (lv_at hl 5 rfl) ?_
      refine lw_thrown (s1 := S9) (t1 := S9) (k := plgF (nB s9.σ) (xs (4 * q + 1))) hC hP (by subst eS; rfl) hl.1 (Nat.le_of_ble_eq_true rfl) ⟨hc1, hs1⟩ dL_law_458 ?_
      refine lv_iload hx hb dL_law_461 (lv_at hl 1 rfl) ?_
      refine lv_icmp_eq (tgt := 468) hx hb dL_law_463 (by decide) (fun c_463 => ?_) (fun c_463 => ?_)
      rotate_left
      · exact absurd z1 c_463
      refine lv_iload hx hb dL_law_468 (lv_at hl 1 rfl) ?_
      refine lv_if_ne (tgt := 492) hx hb dL_law_470 (by decide) (fun c_470 => ?_) (fun c_470 => ?_)
      rotate_left
      · exact absurd c_470 (by decide)
      refine lv_goto (tgt := 2890) hx hb dL_law_492 (by decide) ?_
      exact kk S9 H locs ls (LI.of (LI.mono hI (by omega)) (by subst eS; rfl) (by subst eS; rfl) (by subst eS; rfl) (by subst eS; rfl) (by subst eS; rfl) (by subst eS; rfl) (by subst eS; rfl) (by subst eS; rfl) (by subst eS; rfl) (by subst eS; rfl) (by subst eS; rfl) (by subst eS; rfl) (by subst eS; rfl) (by subst eS; rfl) (by subst eS; rfl)) hP hD hS (lv_sub hl [2, 3, 4, 5, 6, 7] rfl)

set_option maxRecDepth 100000 in
set_option maxHeartbeats 4000000 in
theorem case_3 {p : Program} {l : Launch} {e : Env} {s : State} {m : MethodId} {below : List Frame} {meth : Method} {cq : Code} {G : va_G} {cy : Nat → ClassId} {kS vS : Nat → Nat} {A : Nat → Prop} {a : LA} {b L q : Nat} {xs : Nat → Int32} {Q : State → Prop} {n0 cells slots : Nat} (hC : LC l p s m meth cq G cy kS vS A b L xs) (hq : 4 * q + 4 ≤ L) (hn0 : n0 < 1000000) (hc1 : cells + 1 ≤ room_1.cells) (hs1 : slots + 6 ≤ room_1.slots) (kk : LGo p l e s m below meth cq G cy A a b q Q (n0 + 300) (cells + 1) (slots + 6) 2890) : LGo p l e s m below meth cq G cy A a b q Q n0 cells slots 495 := by
  intro s9 H locs ls hI hP hD hS hl
  obtain ⟨hx, hb, hml, hown, hts⟩ := id hC.S9
  have hL9 := hC.hL
  have hc0 : cells + 0 ≤ room_1.cells := Nat.le_of_succ_le hc1
  have hcn : cells ≤ room_1.cells := Nat.le_of_succ_le hc1
  have hs0 : slots + 0 ≤ room_1.slots := Nat.le_trans (Nat.le_add_right slots 6) hs1
  have hsn : slots ≤ room_1.slots := Nat.le_trans (Nat.le_add_right slots 6) hs1
  have ho := hI.1.1
  have hN0 := ho.1
  have hM0 := ho.2.1
  have hE0 := ho.2.2.1
  have hnx := hI.2.2.2.2.1
  have hct := hI.2.2.2.2.2.1
  rcases traF_v (nB s9.σ) (vB s9.σ) (xs (4 * q + 1)) (xs (4 * q + 2)) (xs (4 * q + 3)) with z0 | z1 | z2 | z4 | z5
  · obtain ⟨⟨e1, hj⟩, ⟨e2, hj2⟩, q5, q6, q7, q8⟩ := traF_0 hN0 z0
    have q9 : wet (vB s9.σ) (bx (xs (4 * q + 1))) = true := ti_wet.mpr (by have z1 := (inR_iff.mp q6).1; rw [Int32.lt_iff_toInt_lt, show (1 : Int32).toInt = 1 from by decide] at z1; rw [Int32.lt_iff_toInt_lt] at q7; omega)
    obtain ⟨S9, eS⟩ : ∃ z : LwS, z = (LwS.mk (traS (bx (xs (4 * q + 1))) (bx (xs (4 * q + 2))) (xs (4 * q + 3)) s9.σ) s9.υ s9.ς s9.hs s9.ep s9.fc s9.ml 0 ((s9.nx + 1) % 8) (kInc s9.ct) s9.nb s9.n s9.LN s9.CM (updR s9.ρ s9.nx s9.σ) s9.x s9.x0 s9.f s9.gk s9.g1 s9.g2 s9.g3 s9.fb (encS s9.σ) s9.fA s9.fV (pastP s9.ct s9.fP (encS s9.σ)) s9.fO s9.g (fun _ => (heatOf (vB s9.σ) (hB s9.σ) (bx (xs (4 * q + 1))) (xs (4 * q + 3))).toInt64) s9.fd) := ⟨_, rfl⟩
    refine lv_aload_n hx hb dL_law_495 rfl (lv_at hl 4 rfl) ?_
    refine lv_aload_n hx hb dL_law_496 rfl (lv_at hl 5 rfl) ?_
    refine lv_iload hx hb dL_law_497 (lv_at hl 0 rfl) ?_
    refine lv_iconst (v := 1) hx hb dL_law_499 (by decide) ?_
    refine lv_iadd hx hb dL_law_500 ?_
    refine m_sld (v := nI (bx (xs (4 * q + 1)))) hx hb hC.hX hC.hbl hC.hbA hS (k := 4 * q + 1) (m_add rfl rfl) (by omega) hC.hL e1 dL_law_501 ?_
    refine lv_aload_n hx hb dL_law_502 rfl (lv_at hl 5 rfl) ?_
    refine lv_iload hx hb dL_law_503 (lv_at hl 0 rfl) ?_
    refine lv_iconst (v := 2) hx hb dL_law_505 (by decide) ?_
    refine lv_iadd hx hb dL_law_506 ?_
    refine m_sld (v := nI (bx (xs (4 * q + 2)))) hx hb hC.hX hC.hbl hC.hbA hS (k := 4 * q + 2) (m_add rfl rfl) (by omega) hC.hL e2 dL_law_507 ?_
    refine lv_aload_n hx hb dL_law_508 rfl (lv_at hl 5 rfl) ?_
    refine lv_iload hx hb dL_law_509 (lv_at hl 0 rfl) ?_
    refine lv_iconst (v := 3) hx hb dL_law_511 (by decide) ?_
    refine lv_iadd hx hb dL_law_512 ?_
    refine m_sld (v := xs (4 * q + 3)) hx hb hC.hX hC.hbl hC.hbA hS (k := 4 * q + 3) (m_add rfl rfl) (by omega) hC.hL rfl dL_law_513 ?_
    refine lv_aload_n hx hb dL_law_514 rfl (lv_at hl 2 rfl) ?_
    refine lw_w (Wc := (LCh cy a s9 s9)) (Wn := (LCh cy a S9 s9)) hC (w_pour_ok l G cy kS vS a.aX a.na a.tr a.sn s9.hs a.hi a.sc s9.ep s9.fc a.ob a.hA s9.nx s9.ct a.ra s9.ρ s9.σ (bx (xs (4 * q + 1))) (bx (xs (4 * q + 2))) (xs (4 * q + 3)) a.oA s9.fo hI.1.1 hnx hct hj hj2 (by rw [← e1, ← e2]; exact z0)) (vx_cwSW 5 hC.S9.2.2.2.2 gL_law_L_pour rfl rfl rfl (by decide +kernel) ⟨Nat.le_of_ble_eq_true rfl, Nat.le_of_ble_eq_true rfl⟩) [0, 1, 4, 5, 6, 24] rfl (by decide) (SameL.cons SameA.rf (SameL.cons SameA.st (SameL.cons SameA.one (SameL.cons SameA.rf (SameL.cons SameA.ring (SameL.cons SameA.one SameL.nil)))))) (by subst eS; rfl) hP hD hS rfl hl.1 rfl (Nat.le_of_ble_eq_true rfl) ⟨hc0, hs0⟩ dL_law_515 (fun H locs hP hD hS => ?_)
    refine lv_istore (lv' := [(6, .int 0), (5, .int (nI (4 * q))), (4, .ref a.oD), (3, .ref a.oA), (2, .ref a.am), (1, .ref a.aX), (0, .ref b)]) hx hb dL_law_518 hl (by decide) rfl (fun ls hl => ?_)
    refine lv_aload_n hx hb dL_law_520 rfl (lv_at hl 4 rfl) ?_
    refine lv_aload_n hx hb dL_law_521 rfl (lv_at hl 6 rfl) ?_
    refine lv_iload hx hb dL_law_522 (lv_at hl 1 rfl) ?_
    refine lv_iconst (v := 1) hx hb dL_law_524 (by decide) ?_
    refine lv_iadd hx hb dL_law_525 ?_
    refine m_sld (v := xs (4 * q + 1)) hx hb hC.hX hC.hbl hC.hbA hS (k := 4 * q + 1) (m_add rfl rfl) (by omega) hC.hL rfl dL_law_526 ?_
    refine lv_aload_n hx hb dL_law_527 rfl (lv_at hl 6 rfl) ?_
    refine lv_iload hx hb dL_law_528 (lv_at hl 1 rfl) ?_
    refine lv_iconst (v := 2) hx hb dL_law_530 (by decide) ?_
    refine lv_iadd hx hb dL_law_531 ?_
    refine m_sld (v := xs (4 * q + 2)) hx hb hC.hX hC.hbl hC.hbA hS (k := 4 * q + 2) (m_add rfl rfl) (by omega) hC.hL rfl dL_law_532 ?_
    refine lv_aload_n hx hb dL_law_533 rfl (lv_at hl 6 rfl) ?_
    refine lv_iload hx hb dL_law_534 (lv_at hl 1 rfl) ?_
    refine lv_iconst (v := 3) hx hb dL_law_536 (by decide) ?_
    refine lv_iadd hx hb dL_law_537 ?_
    refine m_sld (v := xs (4 * q + 3)) hx hb hC.hX hC.hbl hC.hbA hS (k := 4 * q + 3) (m_add rfl rfl) (by omega) hC.hL rfl dL_law_538 ?_
    refine lw_m (s1 := S9) (t1 := s9) (Wn := (LCh cy a S9 S9)) hC (c_X8_pour_ok l G cy a.am a.aS a.aBf a.aAs a.aSv a.aPa a.aOu a.aTx a.aCo s9.ct s9.nb s9.LN ((s9.x0).1) s9.CM s9.hs s9.th (bI (s9.x0).2) s9.ep s9.fc s9.σ (xs (4 * q + 1)) (xs (4 * q + 2)) (xs (4 * q + 3)) s9.fB s9.fP hI.1.1 hct e1 (inR_m1 (by decide) q6) q9 z0) (cwV 3 hC.S9.2.2.2.2 gL_law_X8_pour rfl rfl rfl (by decide +kernel) ⟨Nat.le_of_ble_eq_true rfl, Nat.le_of_ble_eq_true rfl⟩) [15, 16, 17, 20] rfl (by decide) (SameR.cons (SameR.cons (SameR.cons (SameR.cons SameR.nil)))) (by subst eS; rfl) hP hD hS rfl hl.1 rfl (Nat.le_of_ble_eq_true rfl) ⟨hcn, hsn⟩ dL_law_539 (fun H locs hP hD hS => ?_)
    refine lv_istore (lv' := [(7, .int (hB s9.σ (bx (xs (4 * q + 1))) * (xs (4 * q + 3)) / vB s9.σ (bx (xs (4 * q + 1))))), (6, .int 0), (5, .int (nI (4 * q))), (4, .ref a.oD), (3, .ref a.oA), (2, .ref a.am), (1, .ref a.aX), (0, .ref b)]) hx hb dL_law_542 hl (by decide) rfl (fun ls hl => ?_)
    refine lv_aload_n hx hb dL_law_544 rfl (lv_at hl 5 rfl) ?_
    refine lw_thrown (s1 := S9) (t1 := S9) (k := 0) hC hP (by subst eS; rfl) hl.1 (Nat.le_of_ble_eq_true rfl) ⟨hcn, hsn⟩ dL_law_545 ?_
    refine lv_iload hx hb dL_law_548 (lv_at hl 1 rfl) ?_
    refine lv_icmp_eq (tgt := 555) hx hb dL_law_550 (by decide) (fun c_550 => ?_) (fun c_550 => ?_)
    rotate_left
    · exact absurd c_550 (by decide)
    refine lv_iload hx hb dL_law_555 (lv_at hl 1 rfl) ?_
    refine lv_if_ne (tgt := 572) hx hb dL_law_557 (by decide) (fun c_557 => ?_) (fun c_557 => ?_)
    · exact absurd c_557 (by decide)
    refine lv_aload_n hx hb dL_law_560 rfl (lv_at hl 4 rfl) ?_
    refine lv_iconst (v := 0) hx hb dL_law_561 (by decide) ?_
    refine lw_ldL (s1 := S9) (t1 := S9) (x := (heatOf (vB s9.σ) (hB s9.σ) (bx (xs (4 * q + 1))) (xs (4 * q + 3))).toInt64) hC hP (by subst eS; rfl) dL_law_562 ?_
    refine lv_iload hx hb dL_law_563 (lv_at hl 0 rfl) ?_
    refine lv_i2l hx hb dL_law_565 rfl ?_
    refine m_lcmp0 hx hb rfl dL_law_566 ?_
    refine lv_if_eq (tgt := 572) hx hb dL_law_567 (by decide) (fun c_567 => ?_) (fun c_567 => ?_)
    rotate_left
    · exact absurd c_567 (by decide)
    refine lv_goto (tgt := 2890) hx hb dL_law_572 (by decide) ?_
    refine W.widen (k := cells + 1) (n := slots + 6) (by omega) (by omega) ?_
    exact kk S9 H locs ls (LI.of (LI.push (σ' := traS (bx (xs (4 * q + 1))) (bx (xs (4 * q + 2))) (xs (4 * q + 3)) s9.σ) hI (by have h9 := appC_inv (k := 3) (a := xs (4 * q + 1)) (b := xs (4 * q + 2)) (c := xs (4 * q + 3)) hI.1 (by omega) (fltC_3.trans z0); rw [appC_3] at h9; exact h9.mono (by omega))) (by subst eS; rfl) (by subst eS; rfl) (by subst eS; rfl) (by subst eS; rfl) (by subst eS; rfl) (by subst eS; rfl) (by subst eS; rfl) (by subst eS; rfl) (by subst eS; rfl) (by subst eS; rfl) (by subst eS; rfl) (by subst eS; rfl) (by subst eS; rfl) (by subst eS; rfl) (by subst eS; rfl)) hP hD hS (lv_sub hl [2, 3, 4, 5, 6, 7] rfl)
  · obtain ⟨S9, eS⟩ : ∃ z : LwS, z = (LwS.mk s9.σ s9.υ s9.ς s9.hs s9.ep s9.fc s9.ml (mcP (traF (nB s9.σ) (vB s9.σ) (xs (4 * q + 1)) (xs (4 * q + 2)) (xs (4 * q + 3)))) s9.nx s9.ct s9.nb s9.n s9.LN s9.CM s9.ρ s9.x s9.x0 s9.f s9.gk s9.g1 s9.g2 s9.g3 s9.fb (encS s9.σ) s9.fA s9.fV s9.fP s9.fO s9.g s9.fo s9.fd) := ⟨_, rfl⟩
    refine lv_aload_n hx hb dL_law_495 rfl (lv_at hl 4 rfl) ?_
    refine lv_aload_n hx hb dL_law_496 rfl (lv_at hl 5 rfl) ?_
    refine lv_iload hx hb dL_law_497 (lv_at hl 0 rfl) ?_
    refine lv_iconst (v := 1) hx hb dL_law_499 (by decide) ?_
    refine lv_iadd hx hb dL_law_500 ?_
    refine m_sld (v := xs (4 * q + 1)) hx hb hC.hX hC.hbl hC.hbA hS (k := 4 * q + 1) (m_add rfl rfl) (by omega) hC.hL rfl dL_law_501 ?_
    refine lv_aload_n hx hb dL_law_502 rfl (lv_at hl 5 rfl) ?_
    refine lv_iload hx hb dL_law_503 (lv_at hl 0 rfl) ?_
    refine lv_iconst (v := 2) hx hb dL_law_505 (by decide) ?_
    refine lv_iadd hx hb dL_law_506 ?_
    refine m_sld (v := xs (4 * q + 2)) hx hb hC.hX hC.hbl hC.hbA hS (k := 4 * q + 2) (m_add rfl rfl) (by omega) hC.hL rfl dL_law_507 ?_
    refine lv_aload_n hx hb dL_law_508 rfl (lv_at hl 5 rfl) ?_
    refine lv_iload hx hb dL_law_509 (lv_at hl 0 rfl) ?_
    refine lv_iconst (v := 3) hx hb dL_law_511 (by decide) ?_
    refine lv_iadd hx hb dL_law_512 ?_
    refine m_sld (v := xs (4 * q + 3)) hx hb hC.hX hC.hbl hC.hbA hS (k := 4 * q + 3) (m_add rfl rfl) (by omega) hC.hL rfl dL_law_513 ?_
    refine lv_aload_n hx hb dL_law_514 rfl (lv_at hl 2 rfl) ?_
    refine lw_w (Wc := (LCh cy a s9 s9)) (Wn := (LCh cy a S9 s9)) hC (w_pour_1 l G cy kS vS a.aX a.na a.tr a.sn s9.hs a.hi a.sc s9.ep s9.fc a.ob s9.σ (xs (4 * q + 1)) (xs (4 * q + 2)) (xs (4 * q + 3)) a.oA s9.fo hC.hl9 hI.1.1 z1) (vx_cwSW 5 hC.S9.2.2.2.2 gL_law_L_pour rfl rfl rfl (by decide +kernel) ⟨Nat.le_of_ble_eq_true rfl, Nat.le_of_ble_eq_true rfl⟩) [0, 1, 24] rfl (by decide) (SameL.cons SameA.rf (SameL.cons SameA.rf (SameL.cons SameA.rf SameL.nil))) (by subst eS; rfl) hP hD hS rfl hl.1 rfl (Nat.le_of_ble_eq_true rfl) ⟨hc1, hs1⟩ dL_law_515 (fun H locs hP hD hS => ?_)
    refine lv_istore (lv' := [(6, .int 1), (5, .int (nI (4 * q))), (4, .ref a.oD), (3, .ref a.oA), (2, .ref a.am), (1, .ref a.aX), (0, .ref b)]) hx hb dL_law_518 hl (by decide) rfl (fun ls hl => ?_)
    refine lv_aload_n hx hb dL_law_520 rfl (lv_at hl 4 rfl) ?_
    refine lv_aload_n hx hb dL_law_521 rfl (lv_at hl 6 rfl) ?_
    refine lv_iload hx hb dL_law_522 (lv_at hl 1 rfl) ?_
    refine lv_iconst (v := 1) hx hb dL_law_524 (by decide) ?_
    refine lv_iadd hx hb dL_law_525 ?_
    refine m_sld (v := xs (4 * q + 1)) hx hb hC.hX hC.hbl hC.hbA hS (k := 4 * q + 1) (m_add rfl rfl) (by omega) hC.hL rfl dL_law_526 ?_
    refine lv_aload_n hx hb dL_law_527 rfl (lv_at hl 6 rfl) ?_
    refine lv_iload hx hb dL_law_528 (lv_at hl 1 rfl) ?_
    refine lv_iconst (v := 2) hx hb dL_law_530 (by decide) ?_
    refine lv_iadd hx hb dL_law_531 ?_
    refine m_sld (v := xs (4 * q + 2)) hx hb hC.hX hC.hbl hC.hbA hS (k := 4 * q + 2) (m_add rfl rfl) (by omega) hC.hL rfl dL_law_532 ?_
    refine lv_aload_n hx hb dL_law_533 rfl (lv_at hl 6 rfl) ?_
    refine lv_iload hx hb dL_law_534 (lv_at hl 1 rfl) ?_
    refine lv_iconst (v := 3) hx hb dL_law_536 (by decide) ?_
    refine lv_iadd hx hb dL_law_537 ?_
    refine m_sld (v := xs (4 * q + 3)) hx hb hC.hX hC.hbl hC.hbA hS (k := 4 * q + 3) (m_add rfl rfl) (by omega) hC.hL rfl dL_law_538 ?_
    refine lw_m (s1 := S9) (t1 := s9) (Wn := (LCh cy a S9 S9)) hC (c_X8_pour_no l G cy a.am a.aS a.aBf a.aAs a.aSv a.aPa a.aOu a.aTx a.aCo s9.ct s9.nb s9.LN ((s9.x0).1) s9.CM s9.hs s9.th (bI (s9.x0).2) s9.ep s9.fc s9.σ (xs (4 * q + 1)) (xs (4 * q + 2)) (xs (4 * q + 3)) s9.fB hI.1.1 (by rw [z1]; decide) (by rw [z1]; decide)) (cwV 3 hC.S9.2.2.2.2 gL_law_X8_pour rfl rfl rfl (by decide +kernel) ⟨Nat.le_of_ble_eq_true rfl, Nat.le_of_ble_eq_true rfl⟩) [15, 16, 17] rfl (by decide) (SameR.cons (SameR.cons (SameR.cons SameR.nil))) (by subst eS; rfl) hP hD hS rfl hl.1 rfl (Nat.le_of_ble_eq_true rfl) ⟨hc1, hs1⟩ dL_law_539 (fun H locs hP hD hS => ?_)
    refine lv_istore (lv' := [(7, .int 0), (6, .int 1), (5, .int (nI (4 * q))), (4, .ref a.oD), (3, .ref a.oA), (2, .ref a.am), (1, .ref a.aX), (0, .ref b)]) hx hb dL_law_542 hl (by decide) rfl (fun ls hl => ?_)
    refine lv_aload_n hx hb dL_law_544 rfl (lv_at hl 5 rfl) ?_
    refine lw_thrown (s1 := S9) (t1 := S9) (k := mcP (traF (nB s9.σ) (vB s9.σ) (xs (4 * q + 1)) (xs (4 * q + 2)) (xs (4 * q + 3)))) hC hP (by subst eS; rfl) hl.1 (Nat.le_of_ble_eq_true rfl) ⟨hc1, hs1⟩ dL_law_545 ?_
    refine lv_iload hx hb dL_law_548 (lv_at hl 1 rfl) ?_
    refine lv_icmp_eq (tgt := 555) hx hb dL_law_550 (by decide) (fun c_550 => ?_) (fun c_550 => ?_)
    rotate_left
    · exact absurd (by rw [z1]; rfl) c_550
    refine lv_iload hx hb dL_law_555 (lv_at hl 1 rfl) ?_
    refine lv_if_ne (tgt := 572) hx hb dL_law_557 (by decide) (fun c_557 => ?_) (fun c_557 => ?_)
    rotate_left
    · exact absurd c_557 (by decide)
    refine lv_goto (tgt := 2890) hx hb dL_law_572 (by decide) ?_
    exact kk S9 H locs ls (LI.of (LI.mono hI (by omega)) (by subst eS; rfl) (by subst eS; rfl) (by subst eS; rfl) (by subst eS; rfl) (by subst eS; rfl) (by subst eS; rfl) (by subst eS; rfl) (by subst eS; rfl) (by subst eS; rfl) (by subst eS; rfl) (by subst eS; rfl) (by subst eS; rfl) (by subst eS; rfl) (by subst eS; rfl) (by subst eS; rfl)) hP hD hS (lv_sub hl [2, 3, 4, 5, 6, 7] rfl)
  · obtain ⟨S9, eS⟩ : ∃ z : LwS, z = (LwS.mk s9.σ s9.υ s9.ς s9.hs s9.ep s9.fc s9.ml (mcP (traF (nB s9.σ) (vB s9.σ) (xs (4 * q + 1)) (xs (4 * q + 2)) (xs (4 * q + 3)))) s9.nx s9.ct s9.nb s9.n s9.LN s9.CM s9.ρ s9.x s9.x0 s9.f s9.gk s9.g1 s9.g2 s9.g3 s9.fb (encS s9.σ) s9.fA s9.fV s9.fP s9.fO s9.g s9.fo s9.fd) := ⟨_, rfl⟩
    refine lv_aload_n hx hb dL_law_495 rfl (lv_at hl 4 rfl) ?_
    refine lv_aload_n hx hb dL_law_496 rfl (lv_at hl 5 rfl) ?_
    refine lv_iload hx hb dL_law_497 (lv_at hl 0 rfl) ?_
    refine lv_iconst (v := 1) hx hb dL_law_499 (by decide) ?_
    refine lv_iadd hx hb dL_law_500 ?_
    refine m_sld (v := xs (4 * q + 1)) hx hb hC.hX hC.hbl hC.hbA hS (k := 4 * q + 1) (m_add rfl rfl) (by omega) hC.hL rfl dL_law_501 ?_
    refine lv_aload_n hx hb dL_law_502 rfl (lv_at hl 5 rfl) ?_
    refine lv_iload hx hb dL_law_503 (lv_at hl 0 rfl) ?_
    refine lv_iconst (v := 2) hx hb dL_law_505 (by decide) ?_
    refine lv_iadd hx hb dL_law_506 ?_
    refine m_sld (v := xs (4 * q + 2)) hx hb hC.hX hC.hbl hC.hbA hS (k := 4 * q + 2) (m_add rfl rfl) (by omega) hC.hL rfl dL_law_507 ?_
    refine lv_aload_n hx hb dL_law_508 rfl (lv_at hl 5 rfl) ?_
    refine lv_iload hx hb dL_law_509 (lv_at hl 0 rfl) ?_
    refine lv_iconst (v := 3) hx hb dL_law_511 (by decide) ?_
    refine lv_iadd hx hb dL_law_512 ?_
    refine m_sld (v := xs (4 * q + 3)) hx hb hC.hX hC.hbl hC.hbA hS (k := 4 * q + 3) (m_add rfl rfl) (by omega) hC.hL rfl dL_law_513 ?_
    refine lv_aload_n hx hb dL_law_514 rfl (lv_at hl 2 rfl) ?_
    refine lw_w (Wc := (LCh cy a s9 s9)) (Wn := (LCh cy a S9 s9)) hC (w_pour_2 l G cy kS vS a.aX a.na a.tr a.sn s9.hs a.hi a.sc s9.ep s9.fc a.ob s9.σ (xs (4 * q + 1)) (xs (4 * q + 2)) (xs (4 * q + 3)) a.oA s9.fo hC.hl9 hI.1.1 z2) (vx_cwSW 5 hC.S9.2.2.2.2 gL_law_L_pour rfl rfl rfl (by decide +kernel) ⟨Nat.le_of_ble_eq_true rfl, Nat.le_of_ble_eq_true rfl⟩) [0, 1, 24] rfl (by decide) (SameL.cons SameA.rf (SameL.cons SameA.rf (SameL.cons SameA.rf SameL.nil))) (by subst eS; rfl) hP hD hS rfl hl.1 rfl (Nat.le_of_ble_eq_true rfl) ⟨hc1, hs1⟩ dL_law_515 (fun H locs hP hD hS => ?_)
    refine lv_istore (lv' := [(6, .int 2), (5, .int (nI (4 * q))), (4, .ref a.oD), (3, .ref a.oA), (2, .ref a.am), (1, .ref a.aX), (0, .ref b)]) hx hb dL_law_518 hl (by decide) rfl (fun ls hl => ?_)
    refine lv_aload_n hx hb dL_law_520 rfl (lv_at hl 4 rfl) ?_
    refine lv_aload_n hx hb dL_law_521 rfl (lv_at hl 6 rfl) ?_
    refine lv_iload hx hb dL_law_522 (lv_at hl 1 rfl) ?_
    refine lv_iconst (v := 1) hx hb dL_law_524 (by decide) ?_
    refine lv_iadd hx hb dL_law_525 ?_
    refine m_sld (v := xs (4 * q + 1)) hx hb hC.hX hC.hbl hC.hbA hS (k := 4 * q + 1) (m_add rfl rfl) (by omega) hC.hL rfl dL_law_526 ?_
    refine lv_aload_n hx hb dL_law_527 rfl (lv_at hl 6 rfl) ?_
    refine lv_iload hx hb dL_law_528 (lv_at hl 1 rfl) ?_
    refine lv_iconst (v := 2) hx hb dL_law_530 (by decide) ?_
    refine lv_iadd hx hb dL_law_531 ?_
    refine m_sld (v := xs (4 * q + 2)) hx hb hC.hX hC.hbl hC.hbA hS (k := 4 * q + 2) (m_add rfl rfl) (by omega) hC.hL rfl dL_law_532 ?_
    refine lv_aload_n hx hb dL_law_533 rfl (lv_at hl 6 rfl) ?_
    refine lv_iload hx hb dL_law_534 (lv_at hl 1 rfl) ?_
    refine lv_iconst (v := 3) hx hb dL_law_536 (by decide) ?_
    refine lv_iadd hx hb dL_law_537 ?_
    refine m_sld (v := xs (4 * q + 3)) hx hb hC.hX hC.hbl hC.hbA hS (k := 4 * q + 3) (m_add rfl rfl) (by omega) hC.hL rfl dL_law_538 ?_
    refine lw_m (s1 := S9) (t1 := s9) (Wn := (LCh cy a S9 S9)) hC (c_X8_pour_no l G cy a.am a.aS a.aBf a.aAs a.aSv a.aPa a.aOu a.aTx a.aCo s9.ct s9.nb s9.LN ((s9.x0).1) s9.CM s9.hs s9.th (bI (s9.x0).2) s9.ep s9.fc s9.σ (xs (4 * q + 1)) (xs (4 * q + 2)) (xs (4 * q + 3)) s9.fB hI.1.1 (by rw [z2]; decide) (by rw [z2]; decide)) (cwV 3 hC.S9.2.2.2.2 gL_law_X8_pour rfl rfl rfl (by decide +kernel) ⟨Nat.le_of_ble_eq_true rfl, Nat.le_of_ble_eq_true rfl⟩) [15, 16, 17] rfl (by decide) (SameR.cons (SameR.cons (SameR.cons SameR.nil))) (by subst eS; rfl) hP hD hS rfl hl.1 rfl (Nat.le_of_ble_eq_true rfl) ⟨hc1, hs1⟩ dL_law_539 (fun H locs hP hD hS => ?_)
    refine lv_istore (lv' := [(7, .int 0), (6, .int 2), (5, .int (nI (4 * q))), (4, .ref a.oD), (3, .ref a.oA), (2, .ref a.am), (1, .ref a.aX), (0, .ref b)]) hx hb dL_law_542 hl (by decide) rfl (fun ls hl => ?_)
    refine lv_aload_n hx hb dL_law_544 rfl (lv_at hl 5 rfl) ?_
    refine lw_thrown (s1 := S9) (t1 := S9) (k := mcP (traF (nB s9.σ) (vB s9.σ) (xs (4 * q + 1)) (xs (4 * q + 2)) (xs (4 * q + 3)))) hC hP (by subst eS; rfl) hl.1 (Nat.le_of_ble_eq_true rfl) ⟨hc1, hs1⟩ dL_law_545 ?_
    refine lv_iload hx hb dL_law_548 (lv_at hl 1 rfl) ?_
    refine lv_icmp_eq (tgt := 555) hx hb dL_law_550 (by decide) (fun c_550 => ?_) (fun c_550 => ?_)
    rotate_left
    · exact absurd (by rw [z2]; rfl) c_550
    refine lv_iload hx hb dL_law_555 (lv_at hl 1 rfl) ?_
    refine lv_if_ne (tgt := 572) hx hb dL_law_557 (by decide) (fun c_557 => ?_) (fun c_557 => ?_)
    rotate_left
    · exact absurd c_557 (by decide)
    refine lv_goto (tgt := 2890) hx hb dL_law_572 (by decide) ?_
    exact kk S9 H locs ls (LI.of (LI.mono hI (by omega)) (by subst eS; rfl) (by subst eS; rfl) (by subst eS; rfl) (by subst eS; rfl) (by subst eS; rfl) (by subst eS; rfl) (by subst eS; rfl) (by subst eS; rfl) (by subst eS; rfl) (by subst eS; rfl) (by subst eS; rfl) (by subst eS; rfl) (by subst eS; rfl) (by subst eS; rfl) (by subst eS; rfl)) hP hD hS (lv_sub hl [2, 3, 4, 5, 6, 7] rfl)
  · obtain ⟨S9, eS⟩ : ∃ z : LwS, z = (LwS.mk s9.σ s9.υ s9.ς s9.hs s9.ep s9.fc s9.ml (mcP (traF (nB s9.σ) (vB s9.σ) (xs (4 * q + 1)) (xs (4 * q + 2)) (xs (4 * q + 3)))) s9.nx s9.ct s9.nb s9.n s9.LN s9.CM s9.ρ s9.x s9.x0 s9.f s9.gk s9.g1 s9.g2 s9.g3 s9.fb (encS s9.σ) s9.fA s9.fV s9.fP s9.fO s9.g s9.fo s9.fd) := ⟨_, rfl⟩
    refine lv_aload_n hx hb dL_law_495 rfl (lv_at hl 4 rfl) ?_
    refine lv_aload_n hx hb dL_law_496 rfl (lv_at hl 5 rfl) ?_
    refine lv_iload hx hb dL_law_497 (lv_at hl 0 rfl) ?_
    refine lv_iconst (v := 1) hx hb dL_law_499 (by decide) ?_
    refine lv_iadd hx hb dL_law_500 ?_
    refine m_sld (v := xs (4 * q + 1)) hx hb hC.hX hC.hbl hC.hbA hS (k := 4 * q + 1) (m_add rfl rfl) (by omega) hC.hL rfl dL_law_501 ?_
    refine lv_aload_n hx hb dL_law_502 rfl (lv_at hl 5 rfl) ?_
    refine lv_iload hx hb dL_law_503 (lv_at hl 0 rfl) ?_
    refine lv_iconst (v := 2) hx hb dL_law_505 (by decide) ?_
    refine lv_iadd hx hb dL_law_506 ?_
    refine m_sld (v := xs (4 * q + 2)) hx hb hC.hX hC.hbl hC.hbA hS (k := 4 * q + 2) (m_add rfl rfl) (by omega) hC.hL rfl dL_law_507 ?_
    refine lv_aload_n hx hb dL_law_508 rfl (lv_at hl 5 rfl) ?_
    refine lv_iload hx hb dL_law_509 (lv_at hl 0 rfl) ?_
    refine lv_iconst (v := 3) hx hb dL_law_511 (by decide) ?_
    refine lv_iadd hx hb dL_law_512 ?_
    refine m_sld (v := xs (4 * q + 3)) hx hb hC.hX hC.hbl hC.hbA hS (k := 4 * q + 3) (m_add rfl rfl) (by omega) hC.hL rfl dL_law_513 ?_
    refine lv_aload_n hx hb dL_law_514 rfl (lv_at hl 2 rfl) ?_
    refine lw_w (Wc := (LCh cy a s9 s9)) (Wn := (LCh cy a S9 s9)) hC (w_pour_4 l G cy kS vS a.aX a.na a.tr a.sn s9.hs a.hi a.sc s9.ep s9.fc a.ob s9.σ (xs (4 * q + 1)) (xs (4 * q + 2)) (xs (4 * q + 3)) a.oA s9.fo hC.hl9 hI.1.1 z4) (vx_cwSW 5 hC.S9.2.2.2.2 gL_law_L_pour rfl rfl rfl (by decide +kernel) ⟨Nat.le_of_ble_eq_true rfl, Nat.le_of_ble_eq_true rfl⟩) [0, 1, 24] rfl (by decide) (SameL.cons SameA.rf (SameL.cons SameA.rf (SameL.cons SameA.rf SameL.nil))) (by subst eS; rfl) hP hD hS rfl hl.1 rfl (Nat.le_of_ble_eq_true rfl) ⟨hc1, hs1⟩ dL_law_515 (fun H locs hP hD hS => ?_)
    refine lv_istore (lv' := [(6, .int 3), (5, .int (nI (4 * q))), (4, .ref a.oD), (3, .ref a.oA), (2, .ref a.am), (1, .ref a.aX), (0, .ref b)]) hx hb dL_law_518 hl (by decide) rfl (fun ls hl => ?_)
    refine lv_aload_n hx hb dL_law_520 rfl (lv_at hl 4 rfl) ?_
    refine lv_aload_n hx hb dL_law_521 rfl (lv_at hl 6 rfl) ?_
    refine lv_iload hx hb dL_law_522 (lv_at hl 1 rfl) ?_
    refine lv_iconst (v := 1) hx hb dL_law_524 (by decide) ?_
    refine lv_iadd hx hb dL_law_525 ?_
    refine m_sld (v := xs (4 * q + 1)) hx hb hC.hX hC.hbl hC.hbA hS (k := 4 * q + 1) (m_add rfl rfl) (by omega) hC.hL rfl dL_law_526 ?_
    refine lv_aload_n hx hb dL_law_527 rfl (lv_at hl 6 rfl) ?_
    refine lv_iload hx hb dL_law_528 (lv_at hl 1 rfl) ?_
    refine lv_iconst (v := 2) hx hb dL_law_530 (by decide) ?_
    refine lv_iadd hx hb dL_law_531 ?_
    refine m_sld (v := xs (4 * q + 2)) hx hb hC.hX hC.hbl hC.hbA hS (k := 4 * q + 2) (m_add rfl rfl) (by omega) hC.hL rfl dL_law_532 ?_
    refine lv_aload_n hx hb dL_law_533 rfl (lv_at hl 6 rfl) ?_
    refine lv_iload hx hb dL_law_534 (lv_at hl 1 rfl) ?_
    refine lv_iconst (v := 3) hx hb dL_law_536 (by decide) ?_
    refine lv_iadd hx hb dL_law_537 ?_
    refine m_sld (v := xs (4 * q + 3)) hx hb hC.hX hC.hbl hC.hbA hS (k := 4 * q + 3) (m_add rfl rfl) (by omega) hC.hL rfl dL_law_538 ?_
    refine lw_m (s1 := S9) (t1 := s9) (Wn := (LCh cy a S9 S9)) hC (c_X8_pour_no l G cy a.am a.aS a.aBf a.aAs a.aSv a.aPa a.aOu a.aTx a.aCo s9.ct s9.nb s9.LN ((s9.x0).1) s9.CM s9.hs s9.th (bI (s9.x0).2) s9.ep s9.fc s9.σ (xs (4 * q + 1)) (xs (4 * q + 2)) (xs (4 * q + 3)) s9.fB hI.1.1 (by rw [z4]; decide) (by rw [z4]; decide)) (cwV 3 hC.S9.2.2.2.2 gL_law_X8_pour rfl rfl rfl (by decide +kernel) ⟨Nat.le_of_ble_eq_true rfl, Nat.le_of_ble_eq_true rfl⟩) [15, 16, 17] rfl (by decide) (SameR.cons (SameR.cons (SameR.cons SameR.nil))) (by subst eS; rfl) hP hD hS rfl hl.1 rfl (Nat.le_of_ble_eq_true rfl) ⟨hc1, hs1⟩ dL_law_539 (fun H locs hP hD hS => ?_)
    refine lv_istore (lv' := [(7, .int 0), (6, .int 3), (5, .int (nI (4 * q))), (4, .ref a.oD), (3, .ref a.oA), (2, .ref a.am), (1, .ref a.aX), (0, .ref b)]) hx hb dL_law_542 hl (by decide) rfl (fun ls hl => ?_)
    refine lv_aload_n hx hb dL_law_544 rfl (lv_at hl 5 rfl) ?_
    refine lw_thrown (s1 := S9) (t1 := S9) (k := mcP (traF (nB s9.σ) (vB s9.σ) (xs (4 * q + 1)) (xs (4 * q + 2)) (xs (4 * q + 3)))) hC hP (by subst eS; rfl) hl.1 (Nat.le_of_ble_eq_true rfl) ⟨hc1, hs1⟩ dL_law_545 ?_
    refine lv_iload hx hb dL_law_548 (lv_at hl 1 rfl) ?_
    refine lv_icmp_eq (tgt := 555) hx hb dL_law_550 (by decide) (fun c_550 => ?_) (fun c_550 => ?_)
    rotate_left
    · exact absurd (by rw [z4]; rfl) c_550
    refine lv_iload hx hb dL_law_555 (lv_at hl 1 rfl) ?_
    refine lv_if_ne (tgt := 572) hx hb dL_law_557 (by decide) (fun c_557 => ?_) (fun c_557 => ?_)
    rotate_left
    · exact absurd c_557 (by decide)
    refine lv_goto (tgt := 2890) hx hb dL_law_572 (by decide) ?_
    exact kk S9 H locs ls (LI.of (LI.mono hI (by omega)) (by subst eS; rfl) (by subst eS; rfl) (by subst eS; rfl) (by subst eS; rfl) (by subst eS; rfl) (by subst eS; rfl) (by subst eS; rfl) (by subst eS; rfl) (by subst eS; rfl) (by subst eS; rfl) (by subst eS; rfl) (by subst eS; rfl) (by subst eS; rfl) (by subst eS; rfl) (by subst eS; rfl)) hP hD hS (lv_sub hl [2, 3, 4, 5, 6, 7] rfl)
  · obtain ⟨S9, eS⟩ : ∃ z : LwS, z = (LwS.mk s9.σ s9.υ s9.ς s9.hs s9.ep s9.fc s9.ml (mcP (traF (nB s9.σ) (vB s9.σ) (xs (4 * q + 1)) (xs (4 * q + 2)) (xs (4 * q + 3)))) s9.nx s9.ct s9.nb s9.n s9.LN s9.CM s9.ρ s9.x s9.x0 s9.f s9.gk s9.g1 s9.g2 s9.g3 s9.fb (encS s9.σ) s9.fA s9.fV s9.fP s9.fO s9.g s9.fo s9.fd) := ⟨_, rfl⟩
    refine lv_aload_n hx hb dL_law_495 rfl (lv_at hl 4 rfl) ?_
    refine lv_aload_n hx hb dL_law_496 rfl (lv_at hl 5 rfl) ?_
    refine lv_iload hx hb dL_law_497 (lv_at hl 0 rfl) ?_
    refine lv_iconst (v := 1) hx hb dL_law_499 (by decide) ?_
    refine lv_iadd hx hb dL_law_500 ?_
    refine m_sld (v := xs (4 * q + 1)) hx hb hC.hX hC.hbl hC.hbA hS (k := 4 * q + 1) (m_add rfl rfl) (by omega) hC.hL rfl dL_law_501 ?_
    refine lv_aload_n hx hb dL_law_502 rfl (lv_at hl 5 rfl) ?_
    refine lv_iload hx hb dL_law_503 (lv_at hl 0 rfl) ?_
    refine lv_iconst (v := 2) hx hb dL_law_505 (by decide) ?_
    refine lv_iadd hx hb dL_law_506 ?_
    refine m_sld (v := xs (4 * q + 2)) hx hb hC.hX hC.hbl hC.hbA hS (k := 4 * q + 2) (m_add rfl rfl) (by omega) hC.hL rfl dL_law_507 ?_
    refine lv_aload_n hx hb dL_law_508 rfl (lv_at hl 5 rfl) ?_
    refine lv_iload hx hb dL_law_509 (lv_at hl 0 rfl) ?_
    refine lv_iconst (v := 3) hx hb dL_law_511 (by decide) ?_
    refine lv_iadd hx hb dL_law_512 ?_
    refine m_sld (v := xs (4 * q + 3)) hx hb hC.hX hC.hbl hC.hbA hS (k := 4 * q + 3) (m_add rfl rfl) (by omega) hC.hL rfl dL_law_513 ?_
    refine lv_aload_n hx hb dL_law_514 rfl (lv_at hl 2 rfl) ?_
    refine lw_w (Wc := (LCh cy a s9 s9)) (Wn := (LCh cy a S9 s9)) hC (w_pour_5 l G cy kS vS a.aX a.na a.tr a.sn s9.hs a.hi a.sc s9.ep s9.fc a.ob s9.σ (xs (4 * q + 1)) (xs (4 * q + 2)) (xs (4 * q + 3)) a.oA s9.fo hC.hl9 hI.1.1 z5) (vx_cwSW 5 hC.S9.2.2.2.2 gL_law_L_pour rfl rfl rfl (by decide +kernel) ⟨Nat.le_of_ble_eq_true rfl, Nat.le_of_ble_eq_true rfl⟩) [0, 1, 24] rfl (by decide) (SameL.cons SameA.rf (SameL.cons SameA.rf (SameL.cons SameA.rf SameL.nil))) (by subst eS; rfl) hP hD hS rfl hl.1 rfl (Nat.le_of_ble_eq_true rfl) ⟨hc1, hs1⟩ dL_law_515 (fun H locs hP hD hS => ?_)
    refine lv_istore (lv' := [(6, .int 4), (5, .int (nI (4 * q))), (4, .ref a.oD), (3, .ref a.oA), (2, .ref a.am), (1, .ref a.aX), (0, .ref b)]) hx hb dL_law_518 hl (by decide) rfl (fun ls hl => ?_)
    refine lv_aload_n hx hb dL_law_520 rfl (lv_at hl 4 rfl) ?_
    refine lv_aload_n hx hb dL_law_521 rfl (lv_at hl 6 rfl) ?_
    refine lv_iload hx hb dL_law_522 (lv_at hl 1 rfl) ?_
    refine lv_iconst (v := 1) hx hb dL_law_524 (by decide) ?_
    refine lv_iadd hx hb dL_law_525 ?_
    refine m_sld (v := xs (4 * q + 1)) hx hb hC.hX hC.hbl hC.hbA hS (k := 4 * q + 1) (m_add rfl rfl) (by omega) hC.hL rfl dL_law_526 ?_
    refine lv_aload_n hx hb dL_law_527 rfl (lv_at hl 6 rfl) ?_
    refine lv_iload hx hb dL_law_528 (lv_at hl 1 rfl) ?_
    refine lv_iconst (v := 2) hx hb dL_law_530 (by decide) ?_
    refine lv_iadd hx hb dL_law_531 ?_
    refine m_sld (v := xs (4 * q + 2)) hx hb hC.hX hC.hbl hC.hbA hS (k := 4 * q + 2) (m_add rfl rfl) (by omega) hC.hL rfl dL_law_532 ?_
    refine lv_aload_n hx hb dL_law_533 rfl (lv_at hl 6 rfl) ?_
    refine lv_iload hx hb dL_law_534 (lv_at hl 1 rfl) ?_
    refine lv_iconst (v := 3) hx hb dL_law_536 (by decide) ?_
    refine lv_iadd hx hb dL_law_537 ?_
    refine m_sld (v := xs (4 * q + 3)) hx hb hC.hX hC.hbl hC.hbA hS (k := 4 * q + 3) (m_add rfl rfl) (by omega) hC.hL rfl dL_law_538 ?_
    refine lw_m (s1 := S9) (t1 := s9) (Wn := (LCh cy a S9 S9)) hC (c_X8_pour_no l G cy a.am a.aS a.aBf a.aAs a.aSv a.aPa a.aOu a.aTx a.aCo s9.ct s9.nb s9.LN ((s9.x0).1) s9.CM s9.hs s9.th (bI (s9.x0).2) s9.ep s9.fc s9.σ (xs (4 * q + 1)) (xs (4 * q + 2)) (xs (4 * q + 3)) s9.fB hI.1.1 (by rw [z5]; decide) (by rw [z5]; decide)) (cwV 3 hC.S9.2.2.2.2 gL_law_X8_pour rfl rfl rfl (by decide +kernel) ⟨Nat.le_of_ble_eq_true rfl, Nat.le_of_ble_eq_true rfl⟩) [15, 16, 17] rfl (by decide) (SameR.cons (SameR.cons (SameR.cons SameR.nil))) (by subst eS; rfl) hP hD hS rfl hl.1 rfl (Nat.le_of_ble_eq_true rfl) ⟨hc1, hs1⟩ dL_law_539 (fun H locs hP hD hS => ?_)
    refine lv_istore (lv' := [(7, .int 0), (6, .int 4), (5, .int (nI (4 * q))), (4, .ref a.oD), (3, .ref a.oA), (2, .ref a.am), (1, .ref a.aX), (0, .ref b)]) hx hb dL_law_542 hl (by decide) rfl (fun ls hl => ?_)
    refine lv_aload_n hx hb dL_law_544 rfl (lv_at hl 5 rfl) ?_
    refine lw_thrown (s1 := S9) (t1 := S9) (k := mcP (traF (nB s9.σ) (vB s9.σ) (xs (4 * q + 1)) (xs (4 * q + 2)) (xs (4 * q + 3)))) hC hP (by subst eS; rfl) hl.1 (Nat.le_of_ble_eq_true rfl) ⟨hc1, hs1⟩ dL_law_545 ?_
    refine lv_iload hx hb dL_law_548 (lv_at hl 1 rfl) ?_
    refine lv_icmp_eq (tgt := 555) hx hb dL_law_550 (by decide) (fun c_550 => ?_) (fun c_550 => ?_)
    rotate_left
    · exact absurd (by rw [z5]; rfl) c_550
    refine lv_iload hx hb dL_law_555 (lv_at hl 1 rfl) ?_
    refine lv_if_ne (tgt := 572) hx hb dL_law_557 (by decide) (fun c_557 => ?_) (fun c_557 => ?_)
    rotate_left
    · exact absurd c_557 (by decide)
    refine lv_goto (tgt := 2890) hx hb dL_law_572 (by decide) ?_
    exact kk S9 H locs ls (LI.of (LI.mono hI (by omega)) (by subst eS; rfl) (by subst eS; rfl) (by subst eS; rfl) (by subst eS; rfl) (by subst eS; rfl) (by subst eS; rfl) (by subst eS; rfl) (by subst eS; rfl) (by subst eS; rfl) (by subst eS; rfl) (by subst eS; rfl) (by subst eS; rfl) (by subst eS; rfl) (by subst eS; rfl) (by subst eS; rfl)) hP hD hS (lv_sub hl [2, 3, 4, 5, 6, 7] rfl)

set_option maxRecDepth 100000 in
set_option maxHeartbeats 4000000 in
theorem case_4 {p : Program} {l : Launch} {e : Env} {s : State} {m : MethodId} {below : List Frame} {meth : Method} {cq : Code} {G : va_G} {cy : Nat → ClassId} {kS vS : Nat → Nat} {A : Nat → Prop} {a : LA} {b L q : Nat} {xs : Nat → Int32} {Q : State → Prop} {n0 cells slots : Nat} (hC : LC l p s m meth cq G cy kS vS A b L xs) (hq : 4 * q + 4 ≤ L) (hn0 : n0 < 1000000) (hc1 : cells + 1 ≤ room_1.cells) (hs1 : slots + 6 ≤ room_1.slots) (kk : LGo p l e s m below meth cq G cy A a b q Q (n0 + 300) (cells + 1) (slots + 6) 2890) : LGo p l e s m below meth cq G cy A a b q Q n0 cells slots 575 := by
  intro s9 H locs ls hI hP hD hS hl
  obtain ⟨hx, hb, hml, hown, hts⟩ := id hC.S9
  have hL9 := hC.hL
  have hc0 : cells + 0 ≤ room_1.cells := Nat.le_of_succ_le hc1
  have hcn : cells ≤ room_1.cells := Nat.le_of_succ_le hc1
  have hs0 : slots + 0 ≤ room_1.slots := Nat.le_trans (Nat.le_add_right slots 6) hs1
  have hsn : slots ≤ room_1.slots := Nat.le_trans (Nat.le_add_right slots 6) hs1
  have ho := hI.1.1
  have hN0 := ho.1
  have hM0 := ho.2.1
  have hE0 := ho.2.2.1
  have hnx := hI.2.2.2.2.1
  have hct := hI.2.2.2.2.2.1
  rcases dukF_v (nB s9.σ) (nD s9.σ) (xs (4 * q + 1)) (xs (4 * q + 2)) (xs (4 * q + 3)) with z0 | z1 | z2 | z3
  · obtain ⟨-, q3, -, -, -, q6⟩ := dukF_0 hN0 z0
    obtain ⟨S9, eS⟩ : ∃ z : LwS, z = (LwS.mk (dukS (xs (4 * q + 1)) (xs (4 * q + 2)) (xs (4 * q + 3)) s9.σ) s9.υ s9.ς s9.hs s9.ep s9.fc s9.ml 0 ((s9.nx + 1) % 8) (kInc s9.ct) s9.nb s9.n s9.LN s9.CM (updR s9.ρ s9.nx s9.σ) s9.x s9.x0 s9.f s9.gk s9.g1 s9.g2 s9.g3 s9.fb (encS s9.σ) s9.fA s9.fV (pastP s9.ct s9.fP (encS s9.σ)) s9.fO s9.g (fun _ => (nI (nD s9.σ)).toInt64) s9.fd) := ⟨_, rfl⟩
    refine lv_aload_n hx hb dL_law_575 rfl (lv_at hl 4 rfl) ?_
    refine lv_aload_n hx hb dL_law_576 rfl (lv_at hl 5 rfl) ?_
    refine lv_iload hx hb dL_law_577 (lv_at hl 0 rfl) ?_
    refine lv_iconst (v := 1) hx hb dL_law_579 (by decide) ?_
    refine lv_iadd hx hb dL_law_580 ?_
    refine m_sld (v := xs (4 * q + 1)) hx hb hC.hX hC.hbl hC.hbA hS (k := 4 * q + 1) (m_add rfl rfl) (by omega) hC.hL rfl dL_law_581 ?_
    refine lv_aload_n hx hb dL_law_582 rfl (lv_at hl 5 rfl) ?_
    refine lv_iload hx hb dL_law_583 (lv_at hl 0 rfl) ?_
    refine lv_iconst (v := 2) hx hb dL_law_585 (by decide) ?_
    refine lv_iadd hx hb dL_law_586 ?_
    refine m_sld (v := xs (4 * q + 2)) hx hb hC.hX hC.hbl hC.hbA hS (k := 4 * q + 2) (m_add rfl rfl) (by omega) hC.hL rfl dL_law_587 ?_
    refine lv_aload_n hx hb dL_law_588 rfl (lv_at hl 5 rfl) ?_
    refine lv_iload hx hb dL_law_589 (lv_at hl 0 rfl) ?_
    refine lv_iconst (v := 3) hx hb dL_law_591 (by decide) ?_
    refine lv_iadd hx hb dL_law_592 ?_
    refine m_sld (v := xs (4 * q + 3)) hx hb hC.hX hC.hbl hC.hbA hS (k := 4 * q + 3) (m_add rfl rfl) (by omega) hC.hL rfl dL_law_593 ?_
    refine lv_aload_n hx hb dL_law_594 rfl (lv_at hl 2 rfl) ?_
    refine lw_w (Wc := (LCh cy a s9 s9)) (Wn := (LCh cy a S9 s9)) hC (w_addDuck_ok l G cy kS vS a.aX a.na a.tr a.sn s9.hs a.hi a.sc s9.ep s9.fc a.ob a.hA s9.nx s9.ct a.ra s9.ρ s9.σ (xs (4 * q + 1)) (xs (4 * q + 2)) (xs (4 * q + 3)) a.oA s9.fo hI.1.1 hnx hct q6 q3 z0) (vx_cwSW 5 hC.S9.2.2.2.2 gL_law_L_addDuck rfl rfl rfl (by decide +kernel) ⟨Nat.le_of_ble_eq_true rfl, Nat.le_of_ble_eq_true rfl⟩) [0, 1, 4, 5, 6, 24] rfl (by decide) (SameL.cons SameA.rf (SameL.cons SameA.st (SameL.cons SameA.one (SameL.cons SameA.rf (SameL.cons SameA.ring (SameL.cons SameA.one SameL.nil)))))) (by subst eS; rfl) hP hD hS rfl hl.1 rfl (Nat.le_of_ble_eq_true rfl) ⟨hc0, hs0⟩ dL_law_595 (fun H locs hP hD hS => ?_)
    refine lv_istore (lv' := [(6, .int 0), (5, .int (nI (4 * q))), (4, .ref a.oD), (3, .ref a.oA), (2, .ref a.am), (1, .ref a.aX), (0, .ref b)]) hx hb dL_law_598 hl (by decide) rfl (fun ls hl => ?_)
    refine lv_aload_n hx hb dL_law_600 rfl (lv_at hl 4 rfl) ?_
    refine lv_aload_n hx hb dL_law_601 rfl (lv_at hl 6 rfl) ?_
    refine lv_iload hx hb dL_law_602 (lv_at hl 1 rfl) ?_
    refine lv_iconst (v := 1) hx hb dL_law_604 (by decide) ?_
    refine lv_iadd hx hb dL_law_605 ?_
    refine m_sld (v := xs (4 * q + 1)) hx hb hC.hX hC.hbl hC.hbA hS (k := 4 * q + 1) (m_add rfl rfl) (by omega) hC.hL rfl dL_law_606 ?_
    refine lv_aload_n hx hb dL_law_607 rfl (lv_at hl 6 rfl) ?_
    refine lv_iload hx hb dL_law_608 (lv_at hl 1 rfl) ?_
    refine lv_iconst (v := 2) hx hb dL_law_610 (by decide) ?_
    refine lv_iadd hx hb dL_law_611 ?_
    refine m_sld (v := xs (4 * q + 2)) hx hb hC.hX hC.hbl hC.hbA hS (k := 4 * q + 2) (m_add rfl rfl) (by omega) hC.hL rfl dL_law_612 ?_
    refine lv_aload_n hx hb dL_law_613 rfl (lv_at hl 6 rfl) ?_
    refine lv_iload hx hb dL_law_614 (lv_at hl 1 rfl) ?_
    refine lv_iconst (v := 3) hx hb dL_law_616 (by decide) ?_
    refine lv_iadd hx hb dL_law_617 ?_
    refine m_sld (v := xs (4 * q + 3)) hx hb hC.hX hC.hbl hC.hbA hS (k := 4 * q + 3) (m_add rfl rfl) (by omega) hC.hL rfl dL_law_618 ?_
    refine lw_m (s1 := S9) (t1 := s9) (Wn := (LCh cy a S9 S9)) hC (c_X8_addDuck_ok l G cy a.am a.aS a.aBf a.aAs a.aSv a.aPa a.aOu a.aTx a.aCo s9.ct s9.nb s9.LN ((s9.x0).1) s9.CM s9.hs s9.th (bI (s9.x0).2) s9.ep s9.fc s9.σ (xs (4 * q + 1)) (xs (4 * q + 2)) (xs (4 * q + 3)) s9.fB s9.fP hI.1.1 hct q3 ((hI.1.2.2.2.1 (nD s9.σ) q6).2.2 (Nat.le_refl _)) q6 z0) (cwV 3 hC.S9.2.2.2.2 gL_law_X8_addDuck rfl rfl rfl (by decide +kernel) ⟨Nat.le_of_ble_eq_true rfl, Nat.le_of_ble_eq_true rfl⟩) [15, 16, 17, 20] rfl (by decide) (SameR.cons (SameR.cons (SameR.cons (SameR.cons SameR.nil)))) (by subst eS; rfl) hP hD hS rfl hl.1 rfl (Nat.le_of_ble_eq_true rfl) ⟨hcn, hsn⟩ dL_law_619 (fun H locs hP hD hS => ?_)
    refine lv_istore (lv' := [(7, .int (nI (nD s9.σ))), (6, .int 0), (5, .int (nI (4 * q))), (4, .ref a.oD), (3, .ref a.oA), (2, .ref a.am), (1, .ref a.aX), (0, .ref b)]) hx hb dL_law_622 hl (by decide) rfl (fun ls hl => ?_)
    refine lv_aload_n hx hb dL_law_624 rfl (lv_at hl 5 rfl) ?_
    refine lw_thrown (s1 := S9) (t1 := S9) (k := 0) hC hP (by subst eS; rfl) hl.1 (Nat.le_of_ble_eq_true rfl) ⟨hcn, hsn⟩ dL_law_625 ?_
    refine lv_iload hx hb dL_law_628 (lv_at hl 1 rfl) ?_
    refine lv_icmp_eq (tgt := 635) hx hb dL_law_630 (by decide) (fun c_630 => ?_) (fun c_630 => ?_)
    rotate_left
    · exact absurd c_630 (by decide)
    refine lv_iload hx hb dL_law_635 (lv_at hl 1 rfl) ?_
    refine lv_if_ne (tgt := 652) hx hb dL_law_637 (by decide) (fun c_637 => ?_) (fun c_637 => ?_)
    · exact absurd c_637 (by decide)
    refine lv_aload_n hx hb dL_law_640 rfl (lv_at hl 4 rfl) ?_
    refine lv_iconst (v := 0) hx hb dL_law_641 (by decide) ?_
    refine lw_ldL (s1 := S9) (t1 := S9) (x := (nI (nD s9.σ)).toInt64) hC hP (by subst eS; rfl) dL_law_642 ?_
    refine lv_iload hx hb dL_law_643 (lv_at hl 0 rfl) ?_
    refine lv_i2l hx hb dL_law_645 rfl ?_
    refine m_lcmp0 hx hb rfl dL_law_646 ?_
    refine lv_if_eq (tgt := 652) hx hb dL_law_647 (by decide) (fun c_647 => ?_) (fun c_647 => ?_)
    rotate_left
    · exact absurd c_647 (by decide)
    refine lv_goto (tgt := 2890) hx hb dL_law_652 (by decide) ?_
    refine W.widen (k := cells + 1) (n := slots + 6) (by omega) (by omega) ?_
    exact kk S9 H locs ls (LI.of (LI.push hI ((inv_dukS hI.1 q6 q3).mono (by omega))) (by subst eS; rfl) (by subst eS; rfl) (by subst eS; rfl) (by subst eS; rfl) (by subst eS; rfl) (by subst eS; rfl) (by subst eS; rfl) (by subst eS; rfl) (by subst eS; rfl) (by subst eS; rfl) (by subst eS; rfl) (by subst eS; rfl) (by subst eS; rfl) (by subst eS; rfl) (by subst eS; rfl)) hP hD hS (lv_sub hl [2, 3, 4, 5, 6, 7] rfl)
  · obtain ⟨S9, eS⟩ : ∃ z : LwS, z = (LwS.mk s9.σ s9.υ s9.ς s9.hs s9.ep s9.fc s9.ml (dukF (nB s9.σ) (nD s9.σ) (xs (4 * q + 1)) (xs (4 * q + 2)) (xs (4 * q + 3))) s9.nx s9.ct s9.nb s9.n s9.LN s9.CM s9.ρ s9.x s9.x0 s9.f s9.gk s9.g1 s9.g2 s9.g3 s9.fb (encS s9.σ) s9.fA s9.fV s9.fP s9.fO s9.g s9.fo s9.fd) := ⟨_, rfl⟩
    refine lv_aload_n hx hb dL_law_575 rfl (lv_at hl 4 rfl) ?_
    refine lv_aload_n hx hb dL_law_576 rfl (lv_at hl 5 rfl) ?_
    refine lv_iload hx hb dL_law_577 (lv_at hl 0 rfl) ?_
    refine lv_iconst (v := 1) hx hb dL_law_579 (by decide) ?_
    refine lv_iadd hx hb dL_law_580 ?_
    refine m_sld (v := xs (4 * q + 1)) hx hb hC.hX hC.hbl hC.hbA hS (k := 4 * q + 1) (m_add rfl rfl) (by omega) hC.hL rfl dL_law_581 ?_
    refine lv_aload_n hx hb dL_law_582 rfl (lv_at hl 5 rfl) ?_
    refine lv_iload hx hb dL_law_583 (lv_at hl 0 rfl) ?_
    refine lv_iconst (v := 2) hx hb dL_law_585 (by decide) ?_
    refine lv_iadd hx hb dL_law_586 ?_
    refine m_sld (v := xs (4 * q + 2)) hx hb hC.hX hC.hbl hC.hbA hS (k := 4 * q + 2) (m_add rfl rfl) (by omega) hC.hL rfl dL_law_587 ?_
    refine lv_aload_n hx hb dL_law_588 rfl (lv_at hl 5 rfl) ?_
    refine lv_iload hx hb dL_law_589 (lv_at hl 0 rfl) ?_
    refine lv_iconst (v := 3) hx hb dL_law_591 (by decide) ?_
    refine lv_iadd hx hb dL_law_592 ?_
    refine m_sld (v := xs (4 * q + 3)) hx hb hC.hX hC.hbl hC.hbA hS (k := 4 * q + 3) (m_add rfl rfl) (by omega) hC.hL rfl dL_law_593 ?_
    refine lv_aload_n hx hb dL_law_594 rfl (lv_at hl 2 rfl) ?_
    refine lw_w (Wc := (LCh cy a s9 s9)) (Wn := (LCh cy a S9 s9)) hC (w_addDuck_1 l G cy kS vS a.aX a.na a.tr a.sn s9.hs a.hi a.sc s9.ep s9.fc a.ob s9.σ (xs (4 * q + 1)) (xs (4 * q + 2)) (xs (4 * q + 3)) a.oA s9.fo hC.hl9 hI.1.1 z1) (vx_cwSW 5 hC.S9.2.2.2.2 gL_law_L_addDuck rfl rfl rfl (by decide +kernel) ⟨Nat.le_of_ble_eq_true rfl, Nat.le_of_ble_eq_true rfl⟩) [0, 1, 24] rfl (by decide) (SameL.cons SameA.rf (SameL.cons SameA.rf (SameL.cons SameA.rf SameL.nil))) (by subst eS; rfl) hP hD hS rfl hl.1 rfl (Nat.le_of_ble_eq_true rfl) ⟨hc1, hs1⟩ dL_law_595 (fun H locs hP hD hS => ?_)
    refine lv_istore (lv' := [(6, .int 1), (5, .int (nI (4 * q))), (4, .ref a.oD), (3, .ref a.oA), (2, .ref a.am), (1, .ref a.aX), (0, .ref b)]) hx hb dL_law_598 hl (by decide) rfl (fun ls hl => ?_)
    refine lv_aload_n hx hb dL_law_600 rfl (lv_at hl 4 rfl) ?_
    refine lv_aload_n hx hb dL_law_601 rfl (lv_at hl 6 rfl) ?_
    refine lv_iload hx hb dL_law_602 (lv_at hl 1 rfl) ?_
    refine lv_iconst (v := 1) hx hb dL_law_604 (by decide) ?_
    refine lv_iadd hx hb dL_law_605 ?_
    refine m_sld (v := xs (4 * q + 1)) hx hb hC.hX hC.hbl hC.hbA hS (k := 4 * q + 1) (m_add rfl rfl) (by omega) hC.hL rfl dL_law_606 ?_
    refine lv_aload_n hx hb dL_law_607 rfl (lv_at hl 6 rfl) ?_
    refine lv_iload hx hb dL_law_608 (lv_at hl 1 rfl) ?_
    refine lv_iconst (v := 2) hx hb dL_law_610 (by decide) ?_
    refine lv_iadd hx hb dL_law_611 ?_
    refine m_sld (v := xs (4 * q + 2)) hx hb hC.hX hC.hbl hC.hbA hS (k := 4 * q + 2) (m_add rfl rfl) (by omega) hC.hL rfl dL_law_612 ?_
    refine lv_aload_n hx hb dL_law_613 rfl (lv_at hl 6 rfl) ?_
    refine lv_iload hx hb dL_law_614 (lv_at hl 1 rfl) ?_
    refine lv_iconst (v := 3) hx hb dL_law_616 (by decide) ?_
    refine lv_iadd hx hb dL_law_617 ?_
    refine m_sld (v := xs (4 * q + 3)) hx hb hC.hX hC.hbl hC.hbA hS (k := 4 * q + 3) (m_add rfl rfl) (by omega) hC.hL rfl dL_law_618 ?_
    refine lw_m (s1 := S9) (t1 := s9) (Wn := (LCh cy a S9 S9)) hC (c_X8_addDuck_no l G cy a.am a.aS a.aBf a.aAs a.aSv a.aPa a.aOu a.aTx a.aCo s9.ct s9.nb s9.LN ((s9.x0).1) s9.CM s9.hs s9.th (bI (s9.x0).2) s9.ep s9.fc s9.σ (xs (4 * q + 1)) (xs (4 * q + 2)) (xs (4 * q + 3)) s9.fB hI.1.1 (by rw [z1]; decide) (by rw [z1]; decide)) (cwV 3 hC.S9.2.2.2.2 gL_law_X8_addDuck rfl rfl rfl (by decide +kernel) ⟨Nat.le_of_ble_eq_true rfl, Nat.le_of_ble_eq_true rfl⟩) [15, 16, 17] rfl (by decide) (SameR.cons (SameR.cons (SameR.cons SameR.nil))) (by subst eS; rfl) hP hD hS rfl hl.1 rfl (Nat.le_of_ble_eq_true rfl) ⟨hc1, hs1⟩ dL_law_619 (fun H locs hP hD hS => ?_)
    refine lv_istore (lv' := [(7, .int 0), (6, .int 1), (5, .int (nI (4 * q))), (4, .ref a.oD), (3, .ref a.oA), (2, .ref a.am), (1, .ref a.aX), (0, .ref b)]) hx hb dL_law_622 hl (by decide) rfl (fun ls hl => ?_)
    refine lv_aload_n hx hb dL_law_624 rfl (lv_at hl 5 rfl) ?_
    refine lw_thrown (s1 := S9) (t1 := S9) (k := dukF (nB s9.σ) (nD s9.σ) (xs (4 * q + 1)) (xs (4 * q + 2)) (xs (4 * q + 3))) hC hP (by subst eS; rfl) hl.1 (Nat.le_of_ble_eq_true rfl) ⟨hc1, hs1⟩ dL_law_625 ?_
    refine lv_iload hx hb dL_law_628 (lv_at hl 1 rfl) ?_
    refine lv_icmp_eq (tgt := 635) hx hb dL_law_630 (by decide) (fun c_630 => ?_) (fun c_630 => ?_)
    rotate_left
    · exact absurd (by rw [z1]; rfl) c_630
    refine lv_iload hx hb dL_law_635 (lv_at hl 1 rfl) ?_
    refine lv_if_ne (tgt := 652) hx hb dL_law_637 (by decide) (fun c_637 => ?_) (fun c_637 => ?_)
    rotate_left
    · exact absurd c_637 (by decide)
    refine lv_goto (tgt := 2890) hx hb dL_law_652 (by decide) ?_
    exact kk S9 H locs ls (LI.of (LI.mono hI (by omega)) (by subst eS; rfl) (by subst eS; rfl) (by subst eS; rfl) (by subst eS; rfl) (by subst eS; rfl) (by subst eS; rfl) (by subst eS; rfl) (by subst eS; rfl) (by subst eS; rfl) (by subst eS; rfl) (by subst eS; rfl) (by subst eS; rfl) (by subst eS; rfl) (by subst eS; rfl) (by subst eS; rfl)) hP hD hS (lv_sub hl [2, 3, 4, 5, 6, 7] rfl)
  · obtain ⟨S9, eS⟩ : ∃ z : LwS, z = (LwS.mk s9.σ s9.υ s9.ς s9.hs s9.ep s9.fc s9.ml (dukF (nB s9.σ) (nD s9.σ) (xs (4 * q + 1)) (xs (4 * q + 2)) (xs (4 * q + 3))) s9.nx s9.ct s9.nb s9.n s9.LN s9.CM s9.ρ s9.x s9.x0 s9.f s9.gk s9.g1 s9.g2 s9.g3 s9.fb (encS s9.σ) s9.fA s9.fV s9.fP s9.fO s9.g s9.fo s9.fd) := ⟨_, rfl⟩
    refine lv_aload_n hx hb dL_law_575 rfl (lv_at hl 4 rfl) ?_
    refine lv_aload_n hx hb dL_law_576 rfl (lv_at hl 5 rfl) ?_
    refine lv_iload hx hb dL_law_577 (lv_at hl 0 rfl) ?_
    refine lv_iconst (v := 1) hx hb dL_law_579 (by decide) ?_
    refine lv_iadd hx hb dL_law_580 ?_
    refine m_sld (v := xs (4 * q + 1)) hx hb hC.hX hC.hbl hC.hbA hS (k := 4 * q + 1) (m_add rfl rfl) (by omega) hC.hL rfl dL_law_581 ?_
    refine lv_aload_n hx hb dL_law_582 rfl (lv_at hl 5 rfl) ?_
    refine lv_iload hx hb dL_law_583 (lv_at hl 0 rfl) ?_
    refine lv_iconst (v := 2) hx hb dL_law_585 (by decide) ?_
    refine lv_iadd hx hb dL_law_586 ?_
    refine m_sld (v := xs (4 * q + 2)) hx hb hC.hX hC.hbl hC.hbA hS (k := 4 * q + 2) (m_add rfl rfl) (by omega) hC.hL rfl dL_law_587 ?_
    refine lv_aload_n hx hb dL_law_588 rfl (lv_at hl 5 rfl) ?_
    refine lv_iload hx hb dL_law_589 (lv_at hl 0 rfl) ?_
    refine lv_iconst (v := 3) hx hb dL_law_591 (by decide) ?_
    refine lv_iadd hx hb dL_law_592 ?_
    refine m_sld (v := xs (4 * q + 3)) hx hb hC.hX hC.hbl hC.hbA hS (k := 4 * q + 3) (m_add rfl rfl) (by omega) hC.hL rfl dL_law_593 ?_
    refine lv_aload_n hx hb dL_law_594 rfl (lv_at hl 2 rfl) ?_
    refine lw_w (Wc := (LCh cy a s9 s9)) (Wn := (LCh cy a S9 s9)) hC (w_addDuck_2 l G cy kS vS a.aX a.na a.tr a.sn s9.hs a.hi a.sc s9.ep s9.fc a.ob s9.σ (xs (4 * q + 1)) (xs (4 * q + 2)) (xs (4 * q + 3)) a.oA s9.fo hC.hl9 hI.1.1 z2) (vx_cwSW 5 hC.S9.2.2.2.2 gL_law_L_addDuck rfl rfl rfl (by decide +kernel) ⟨Nat.le_of_ble_eq_true rfl, Nat.le_of_ble_eq_true rfl⟩) [0, 1, 24] rfl (by decide) (SameL.cons SameA.rf (SameL.cons SameA.rf (SameL.cons SameA.rf SameL.nil))) (by subst eS; rfl) hP hD hS rfl hl.1 rfl (Nat.le_of_ble_eq_true rfl) ⟨hc1, hs1⟩ dL_law_595 (fun H locs hP hD hS => ?_)
    refine lv_istore (lv' := [(6, .int 2), (5, .int (nI (4 * q))), (4, .ref a.oD), (3, .ref a.oA), (2, .ref a.am), (1, .ref a.aX), (0, .ref b)]) hx hb dL_law_598 hl (by decide) rfl (fun ls hl => ?_)
    refine lv_aload_n hx hb dL_law_600 rfl (lv_at hl 4 rfl) ?_
    refine lv_aload_n hx hb dL_law_601 rfl (lv_at hl 6 rfl) ?_
    refine lv_iload hx hb dL_law_602 (lv_at hl 1 rfl) ?_
    refine lv_iconst (v := 1) hx hb dL_law_604 (by decide) ?_
    refine lv_iadd hx hb dL_law_605 ?_
    refine m_sld (v := xs (4 * q + 1)) hx hb hC.hX hC.hbl hC.hbA hS (k := 4 * q + 1) (m_add rfl rfl) (by omega) hC.hL rfl dL_law_606 ?_
    refine lv_aload_n hx hb dL_law_607 rfl (lv_at hl 6 rfl) ?_
    refine lv_iload hx hb dL_law_608 (lv_at hl 1 rfl) ?_
    refine lv_iconst (v := 2) hx hb dL_law_610 (by decide) ?_
    refine lv_iadd hx hb dL_law_611 ?_
    refine m_sld (v := xs (4 * q + 2)) hx hb hC.hX hC.hbl hC.hbA hS (k := 4 * q + 2) (m_add rfl rfl) (by omega) hC.hL rfl dL_law_612 ?_
    refine lv_aload_n hx hb dL_law_613 rfl (lv_at hl 6 rfl) ?_
    refine lv_iload hx hb dL_law_614 (lv_at hl 1 rfl) ?_
    refine lv_iconst (v := 3) hx hb dL_law_616 (by decide) ?_
    refine lv_iadd hx hb dL_law_617 ?_
    refine m_sld (v := xs (4 * q + 3)) hx hb hC.hX hC.hbl hC.hbA hS (k := 4 * q + 3) (m_add rfl rfl) (by omega) hC.hL rfl dL_law_618 ?_
    refine lw_m (s1 := S9) (t1 := s9) (Wn := (LCh cy a S9 S9)) hC (c_X8_addDuck_no l G cy a.am a.aS a.aBf a.aAs a.aSv a.aPa a.aOu a.aTx a.aCo s9.ct s9.nb s9.LN ((s9.x0).1) s9.CM s9.hs s9.th (bI (s9.x0).2) s9.ep s9.fc s9.σ (xs (4 * q + 1)) (xs (4 * q + 2)) (xs (4 * q + 3)) s9.fB hI.1.1 (by rw [z2]; decide) (by rw [z2]; decide)) (cwV 3 hC.S9.2.2.2.2 gL_law_X8_addDuck rfl rfl rfl (by decide +kernel) ⟨Nat.le_of_ble_eq_true rfl, Nat.le_of_ble_eq_true rfl⟩) [15, 16, 17] rfl (by decide) (SameR.cons (SameR.cons (SameR.cons SameR.nil))) (by subst eS; rfl) hP hD hS rfl hl.1 rfl (Nat.le_of_ble_eq_true rfl) ⟨hc1, hs1⟩ dL_law_619 (fun H locs hP hD hS => ?_)
    refine lv_istore (lv' := [(7, .int 0), (6, .int 2), (5, .int (nI (4 * q))), (4, .ref a.oD), (3, .ref a.oA), (2, .ref a.am), (1, .ref a.aX), (0, .ref b)]) hx hb dL_law_622 hl (by decide) rfl (fun ls hl => ?_)
    refine lv_aload_n hx hb dL_law_624 rfl (lv_at hl 5 rfl) ?_
    refine lw_thrown (s1 := S9) (t1 := S9) (k := dukF (nB s9.σ) (nD s9.σ) (xs (4 * q + 1)) (xs (4 * q + 2)) (xs (4 * q + 3))) hC hP (by subst eS; rfl) hl.1 (Nat.le_of_ble_eq_true rfl) ⟨hc1, hs1⟩ dL_law_625 ?_
    refine lv_iload hx hb dL_law_628 (lv_at hl 1 rfl) ?_
    refine lv_icmp_eq (tgt := 635) hx hb dL_law_630 (by decide) (fun c_630 => ?_) (fun c_630 => ?_)
    rotate_left
    · exact absurd (by rw [z2]; rfl) c_630
    refine lv_iload hx hb dL_law_635 (lv_at hl 1 rfl) ?_
    refine lv_if_ne (tgt := 652) hx hb dL_law_637 (by decide) (fun c_637 => ?_) (fun c_637 => ?_)
    rotate_left
    · exact absurd c_637 (by decide)
    refine lv_goto (tgt := 2890) hx hb dL_law_652 (by decide) ?_
    exact kk S9 H locs ls (LI.of (LI.mono hI (by omega)) (by subst eS; rfl) (by subst eS; rfl) (by subst eS; rfl) (by subst eS; rfl) (by subst eS; rfl) (by subst eS; rfl) (by subst eS; rfl) (by subst eS; rfl) (by subst eS; rfl) (by subst eS; rfl) (by subst eS; rfl) (by subst eS; rfl) (by subst eS; rfl) (by subst eS; rfl) (by subst eS; rfl)) hP hD hS (lv_sub hl [2, 3, 4, 5, 6, 7] rfl)
  · obtain ⟨S9, eS⟩ : ∃ z : LwS, z = (LwS.mk s9.σ s9.υ s9.ς s9.hs s9.ep s9.fc s9.ml (dukF (nB s9.σ) (nD s9.σ) (xs (4 * q + 1)) (xs (4 * q + 2)) (xs (4 * q + 3))) s9.nx s9.ct s9.nb s9.n s9.LN s9.CM s9.ρ s9.x s9.x0 s9.f s9.gk s9.g1 s9.g2 s9.g3 s9.fb (encS s9.σ) s9.fA s9.fV s9.fP s9.fO s9.g s9.fo s9.fd) := ⟨_, rfl⟩
    refine lv_aload_n hx hb dL_law_575 rfl (lv_at hl 4 rfl) ?_
    refine lv_aload_n hx hb dL_law_576 rfl (lv_at hl 5 rfl) ?_
    refine lv_iload hx hb dL_law_577 (lv_at hl 0 rfl) ?_
    refine lv_iconst (v := 1) hx hb dL_law_579 (by decide) ?_
    refine lv_iadd hx hb dL_law_580 ?_
    refine m_sld (v := xs (4 * q + 1)) hx hb hC.hX hC.hbl hC.hbA hS (k := 4 * q + 1) (m_add rfl rfl) (by omega) hC.hL rfl dL_law_581 ?_
    refine lv_aload_n hx hb dL_law_582 rfl (lv_at hl 5 rfl) ?_
    refine lv_iload hx hb dL_law_583 (lv_at hl 0 rfl) ?_
    refine lv_iconst (v := 2) hx hb dL_law_585 (by decide) ?_
    refine lv_iadd hx hb dL_law_586 ?_
    refine m_sld (v := xs (4 * q + 2)) hx hb hC.hX hC.hbl hC.hbA hS (k := 4 * q + 2) (m_add rfl rfl) (by omega) hC.hL rfl dL_law_587 ?_
    refine lv_aload_n hx hb dL_law_588 rfl (lv_at hl 5 rfl) ?_
    refine lv_iload hx hb dL_law_589 (lv_at hl 0 rfl) ?_
    refine lv_iconst (v := 3) hx hb dL_law_591 (by decide) ?_
    refine lv_iadd hx hb dL_law_592 ?_
    refine m_sld (v := xs (4 * q + 3)) hx hb hC.hX hC.hbl hC.hbA hS (k := 4 * q + 3) (m_add rfl rfl) (by omega) hC.hL rfl dL_law_593 ?_
    refine lv_aload_n hx hb dL_law_594 rfl (lv_at hl 2 rfl) ?_
    refine lw_w (Wc := (LCh cy a s9 s9)) (Wn := (LCh cy a S9 s9)) hC (w_addDuck_3 l G cy kS vS a.aX a.na a.tr a.sn s9.hs a.hi a.sc s9.ep s9.fc a.ob s9.σ (xs (4 * q + 1)) (xs (4 * q + 2)) (xs (4 * q + 3)) a.oA s9.fo hC.hl9 hI.1.1 z3) (vx_cwSW 5 hC.S9.2.2.2.2 gL_law_L_addDuck rfl rfl rfl (by decide +kernel) ⟨Nat.le_of_ble_eq_true rfl, Nat.le_of_ble_eq_true rfl⟩) [0, 1, 24] rfl (by decide) (SameL.cons SameA.rf (SameL.cons SameA.rf (SameL.cons SameA.rf SameL.nil))) (by subst eS; rfl) hP hD hS rfl hl.1 rfl (Nat.le_of_ble_eq_true rfl) ⟨hc1, hs1⟩ dL_law_595 (fun H locs hP hD hS => ?_)
    refine lv_istore (lv' := [(6, .int 3), (5, .int (nI (4 * q))), (4, .ref a.oD), (3, .ref a.oA), (2, .ref a.am), (1, .ref a.aX), (0, .ref b)]) hx hb dL_law_598 hl (by decide) rfl (fun ls hl => ?_)
    refine lv_aload_n hx hb dL_law_600 rfl (lv_at hl 4 rfl) ?_
    refine lv_aload_n hx hb dL_law_601 rfl (lv_at hl 6 rfl) ?_
    refine lv_iload hx hb dL_law_602 (lv_at hl 1 rfl) ?_
    refine lv_iconst (v := 1) hx hb dL_law_604 (by decide) ?_
    refine lv_iadd hx hb dL_law_605 ?_
    refine m_sld (v := xs (4 * q + 1)) hx hb hC.hX hC.hbl hC.hbA hS (k := 4 * q + 1) (m_add rfl rfl) (by omega) hC.hL rfl dL_law_606 ?_
    refine lv_aload_n hx hb dL_law_607 rfl (lv_at hl 6 rfl) ?_
    refine lv_iload hx hb dL_law_608 (lv_at hl 1 rfl) ?_
    refine lv_iconst (v := 2) hx hb dL_law_610 (by decide) ?_
    refine lv_iadd hx hb dL_law_611 ?_
    refine m_sld (v := xs (4 * q + 2)) hx hb hC.hX hC.hbl hC.hbA hS (k := 4 * q + 2) (m_add rfl rfl) (by omega) hC.hL rfl dL_law_612 ?_
    refine lv_aload_n hx hb dL_law_613 rfl (lv_at hl 6 rfl) ?_
    refine lv_iload hx hb dL_law_614 (lv_at hl 1 rfl) ?_
    refine lv_iconst (v := 3) hx hb dL_law_616 (by decide) ?_
    refine lv_iadd hx hb dL_law_617 ?_
    refine m_sld (v := xs (4 * q + 3)) hx hb hC.hX hC.hbl hC.hbA hS (k := 4 * q + 3) (m_add rfl rfl) (by omega) hC.hL rfl dL_law_618 ?_
    refine lw_m (s1 := S9) (t1 := s9) (Wn := (LCh cy a S9 S9)) hC (c_X8_addDuck_no l G cy a.am a.aS a.aBf a.aAs a.aSv a.aPa a.aOu a.aTx a.aCo s9.ct s9.nb s9.LN ((s9.x0).1) s9.CM s9.hs s9.th (bI (s9.x0).2) s9.ep s9.fc s9.σ (xs (4 * q + 1)) (xs (4 * q + 2)) (xs (4 * q + 3)) s9.fB hI.1.1 (by rw [z3]; decide) (by rw [z3]; decide)) (cwV 3 hC.S9.2.2.2.2 gL_law_X8_addDuck rfl rfl rfl (by decide +kernel) ⟨Nat.le_of_ble_eq_true rfl, Nat.le_of_ble_eq_true rfl⟩) [15, 16, 17] rfl (by decide) (SameR.cons (SameR.cons (SameR.cons SameR.nil))) (by subst eS; rfl) hP hD hS rfl hl.1 rfl (Nat.le_of_ble_eq_true rfl) ⟨hc1, hs1⟩ dL_law_619 (fun H locs hP hD hS => ?_)
    refine lv_istore (lv' := [(7, .int 0), (6, .int 3), (5, .int (nI (4 * q))), (4, .ref a.oD), (3, .ref a.oA), (2, .ref a.am), (1, .ref a.aX), (0, .ref b)]) hx hb dL_law_622 hl (by decide) rfl (fun ls hl => ?_)
    refine lv_aload_n hx hb dL_law_624 rfl (lv_at hl 5 rfl) ?_
    refine lw_thrown (s1 := S9) (t1 := S9) (k := dukF (nB s9.σ) (nD s9.σ) (xs (4 * q + 1)) (xs (4 * q + 2)) (xs (4 * q + 3))) hC hP (by subst eS; rfl) hl.1 (Nat.le_of_ble_eq_true rfl) ⟨hc1, hs1⟩ dL_law_625 ?_
    refine lv_iload hx hb dL_law_628 (lv_at hl 1 rfl) ?_
    refine lv_icmp_eq (tgt := 635) hx hb dL_law_630 (by decide) (fun c_630 => ?_) (fun c_630 => ?_)
    rotate_left
    · exact absurd (by rw [z3]; rfl) c_630
    refine lv_iload hx hb dL_law_635 (lv_at hl 1 rfl) ?_
    refine lv_if_ne (tgt := 652) hx hb dL_law_637 (by decide) (fun c_637 => ?_) (fun c_637 => ?_)
    rotate_left
    · exact absurd c_637 (by decide)
    refine lv_goto (tgt := 2890) hx hb dL_law_652 (by decide) ?_
    exact kk S9 H locs ls (LI.of (LI.mono hI (by omega)) (by subst eS; rfl) (by subst eS; rfl) (by subst eS; rfl) (by subst eS; rfl) (by subst eS; rfl) (by subst eS; rfl) (by subst eS; rfl) (by subst eS; rfl) (by subst eS; rfl) (by subst eS; rfl) (by subst eS; rfl) (by subst eS; rfl) (by subst eS; rfl) (by subst eS; rfl) (by subst eS; rfl)) hP hD hS (lv_sub hl [2, 3, 4, 5, 6, 7] rfl)

set_option maxRecDepth 100000 in
set_option maxHeartbeats 4000000 in
theorem case_5 {p : Program} {l : Launch} {e : Env} {s : State} {m : MethodId} {below : List Frame} {meth : Method} {cq : Code} {G : va_G} {cy : Nat → ClassId} {kS vS : Nat → Nat} {A : Nat → Prop} {a : LA} {b L q : Nat} {xs : Nat → Int32} {Q : State → Prop} {n0 cells slots : Nat} (hC : LC l p s m meth cq G cy kS vS A b L xs) (hq : 4 * q + 4 ≤ L) (hn0 : n0 < 1000000) (hc1 : cells + 1 ≤ room_1.cells) (hs1 : slots + 6 ≤ room_1.slots) (kk : LGo p l e s m below meth cq G cy A a b q Q (n0 + 300) (cells + 1) (slots + 6) 2890) : LGo p l e s m below meth cq G cy A a b q Q n0 cells slots 655 := by
  intro s9 H locs ls hI hP hD hS hl
  obtain ⟨hx, hb, hml, hown, hts⟩ := id hC.S9
  have hL9 := hC.hL
  have hc0 : cells + 0 ≤ room_1.cells := Nat.le_of_succ_le hc1
  have hcn : cells ≤ room_1.cells := Nat.le_of_succ_le hc1
  have hs0 : slots + 0 ≤ room_1.slots := Nat.le_trans (Nat.le_add_right slots 6) hs1
  have hsn : slots ≤ room_1.slots := Nat.le_trans (Nat.le_add_right slots 6) hs1
  have ho := hI.1.1
  have hN0 := ho.1
  have hM0 := ho.2.1
  have hE0 := ho.2.2.1
  have hnx := hI.2.2.2.2.1
  have hct := hI.2.2.2.2.2.1
  rcases admF_v (nB s9.σ) (vB s9.σ) (hB s9.σ) (mB s9.σ) (xs (4 * q + 1)) with z0 | z1 | z3 | z5
  · obtain ⟨⟨e1, hj⟩, -⟩ := admF_0 hN0 z0
    obtain ⟨S9, eS⟩ : ∃ z : LwS, z = (LwS.mk (admS (bx (xs (4 * q + 1))) s9.σ) s9.υ s9.ς s9.hs s9.ep s9.fc s9.ml 0 ((s9.nx + 1) % 8) (kInc s9.ct) s9.nb s9.n s9.LN s9.CM (updR s9.ρ s9.nx s9.σ) s9.x s9.x0 s9.f s9.gk s9.g1 s9.g2 s9.g3 s9.fb (encS s9.σ) s9.fA s9.fV (pastP s9.ct s9.fP (encS s9.σ)) s9.fO s9.g (fun _ => (cntM (mB (admS (bx (xs (4 * q + 1))) s9.σ)) (nB (admS (bx (xs (4 * q + 1))) s9.σ))).toInt64) s9.fd) := ⟨_, rfl⟩
    refine lv_aload_n hx hb dL_law_655 rfl (lv_at hl 4 rfl) ?_
    refine lv_aload_n hx hb dL_law_656 rfl (lv_at hl 5 rfl) ?_
    refine lv_iload hx hb dL_law_657 (lv_at hl 0 rfl) ?_
    refine lv_iconst (v := 1) hx hb dL_law_659 (by decide) ?_
    refine lv_iadd hx hb dL_law_660 ?_
    refine m_sld (v := nI (bx (xs (4 * q + 1)))) hx hb hC.hX hC.hbl hC.hbA hS (k := 4 * q + 1) (m_add rfl rfl) (by omega) hC.hL e1 dL_law_661 ?_
    refine lv_aload_n hx hb dL_law_662 rfl (lv_at hl 2 rfl) ?_
    refine lw_w (Wc := (LCh cy a s9 s9)) (Wn := (LCh cy a S9 s9)) hC (w_join_ok l G cy kS vS a.aX a.na a.tr a.sn s9.hs a.hi a.sc s9.ep s9.fc a.ob a.hA s9.nx s9.ct a.ra s9.ρ s9.σ (bx (xs (4 * q + 1))) a.oA s9.fo hI.1.1 hnx hct hj (by rw [← e1]; exact z0)) (vx_cwSW 3 hC.S9.2.2.2.2 gL_law_L_join rfl rfl rfl (by decide +kernel) ⟨Nat.le_of_ble_eq_true rfl, Nat.le_of_ble_eq_true rfl⟩) [0, 1, 4, 5, 6, 24] rfl (by decide) (SameL.cons SameA.rf (SameL.cons SameA.st (SameL.cons SameA.one (SameL.cons SameA.rf (SameL.cons SameA.ring (SameL.cons SameA.one SameL.nil)))))) (by subst eS; rfl) hP hD hS rfl hl.1 rfl (Nat.le_of_ble_eq_true rfl) ⟨hc0, hs0⟩ dL_law_663 (fun H locs hP hD hS => ?_)
    refine lv_istore (lv' := [(6, .int 0), (5, .int (nI (4 * q))), (4, .ref a.oD), (3, .ref a.oA), (2, .ref a.am), (1, .ref a.aX), (0, .ref b)]) hx hb dL_law_666 hl (by decide) rfl (fun ls hl => ?_)
    refine lv_aload_n hx hb dL_law_668 rfl (lv_at hl 4 rfl) ?_
    refine lv_aload_n hx hb dL_law_669 rfl (lv_at hl 6 rfl) ?_
    refine lv_iload hx hb dL_law_670 (lv_at hl 1 rfl) ?_
    refine lv_iconst (v := 1) hx hb dL_law_672 (by decide) ?_
    refine lv_iadd hx hb dL_law_673 ?_
    refine m_sld (v := xs (4 * q + 1)) hx hb hC.hX hC.hbl hC.hbA hS (k := 4 * q + 1) (m_add rfl rfl) (by omega) hC.hL rfl dL_law_674 ?_
    refine lw_m (s1 := S9) (t1 := s9) (Wn := (LCh cy a S9 S9)) hC (c_X8_join_ok l G cy a.am a.aS a.aBf a.aAs a.aSv a.aPa a.aOu a.aTx a.aCo s9.ct s9.nb s9.LN ((s9.x0).1) s9.CM s9.hs s9.th (bI (s9.x0).2) s9.ep s9.fc s9.σ (xs (4 * q + 1)) s9.fB s9.fP hI.1.1 hct e1 z0) (cwV 1 hC.S9.2.2.2.2 gL_law_X8_join rfl rfl rfl (by decide +kernel) ⟨Nat.le_of_ble_eq_true rfl, Nat.le_of_ble_eq_true rfl⟩) [15, 16, 17, 20] rfl (by decide) (SameR.cons (SameR.cons (SameR.cons (SameR.cons SameR.nil)))) (by subst eS; rfl) hP hD hS rfl hl.1 rfl (Nat.le_of_ble_eq_true rfl) ⟨hcn, hsn⟩ dL_law_675 (fun H locs hP hD hS => ?_)
    refine lv_istore (lv' := [(7, .int (cntM (upd (mB s9.σ) (bx (xs (4 * q + 1))) 1) (nB s9.σ))), (6, .int 0), (5, .int (nI (4 * q))), (4, .ref a.oD), (3, .ref a.oA), (2, .ref a.am), (1, .ref a.aX), (0, .ref b)]) hx hb dL_law_678 hl (by decide) rfl (fun ls hl => ?_)
    refine lv_aload_n hx hb dL_law_680 rfl (lv_at hl 5 rfl) ?_
    refine lw_thrown (s1 := S9) (t1 := S9) (k := 0) hC hP (by subst eS; rfl) hl.1 (Nat.le_of_ble_eq_true rfl) ⟨hcn, hsn⟩ dL_law_681 ?_
    refine lv_iload hx hb dL_law_684 (lv_at hl 1 rfl) ?_
    refine lv_icmp_eq (tgt := 691) hx hb dL_law_686 (by decide) (fun c_686 => ?_) (fun c_686 => ?_)
    rotate_left
    · exact absurd c_686 (by decide)
    refine lv_iload hx hb dL_law_691 (lv_at hl 1 rfl) ?_
    refine lv_if_ne (tgt := 708) hx hb dL_law_693 (by decide) (fun c_693 => ?_) (fun c_693 => ?_)
    · exact absurd c_693 (by decide)
    refine lv_aload_n hx hb dL_law_696 rfl (lv_at hl 4 rfl) ?_
    refine lv_iconst (v := 0) hx hb dL_law_697 (by decide) ?_
    refine lw_ldL (s1 := S9) (t1 := S9) (x := (cntM (mB (admS (bx (xs (4 * q + 1))) s9.σ)) (nB (admS (bx (xs (4 * q + 1))) s9.σ))).toInt64) hC hP (by subst eS; rfl) dL_law_698 ?_
    refine lv_iload hx hb dL_law_699 (lv_at hl 0 rfl) ?_
    refine lv_i2l hx hb dL_law_701 rfl ?_
    refine m_lcmp0 hx hb rfl dL_law_702 ?_
    refine lv_if_eq (tgt := 708) hx hb dL_law_703 (by decide) (fun c_703 => ?_) (fun c_703 => ?_)
    rotate_left
    · exact absurd c_703 (by decide)
    refine lv_goto (tgt := 2890) hx hb dL_law_708 (by decide) ?_
    refine W.widen (k := cells + 1) (n := slots + 6) (by omega) (by omega) ?_
    exact kk S9 H locs ls (LI.of (LI.push hI ((inv_admS hI.1 hj).mono (by omega))) (by subst eS; rfl) (by subst eS; rfl) (by subst eS; rfl) (by subst eS; rfl) (by subst eS; rfl) (by subst eS; rfl) (by subst eS; rfl) (by subst eS; rfl) (by subst eS; rfl) (by subst eS; rfl) (by subst eS; rfl) (by subst eS; rfl) (by subst eS; rfl) (by subst eS; rfl) (by subst eS; rfl)) hP hD hS (lv_sub hl [2, 3, 4, 5, 6, 7] rfl)
  · obtain ⟨S9, eS⟩ : ∃ z : LwS, z = (LwS.mk s9.σ s9.υ s9.ς s9.hs s9.ep s9.fc s9.ml (mcJ (admF (nB s9.σ) (vB s9.σ) (hB s9.σ) (mB s9.σ) (xs (4 * q + 1)))) s9.nx s9.ct s9.nb s9.n s9.LN s9.CM s9.ρ s9.x s9.x0 s9.f s9.gk s9.g1 s9.g2 s9.g3 s9.fb (encS s9.σ) s9.fA s9.fV s9.fP s9.fO s9.g s9.fo s9.fd) := ⟨_, rfl⟩
    refine lv_aload_n hx hb dL_law_655 rfl (lv_at hl 4 rfl) ?_
    refine lv_aload_n hx hb dL_law_656 rfl (lv_at hl 5 rfl) ?_
    refine lv_iload hx hb dL_law_657 (lv_at hl 0 rfl) ?_
    refine lv_iconst (v := 1) hx hb dL_law_659 (by decide) ?_
    refine lv_iadd hx hb dL_law_660 ?_
    refine m_sld (v := xs (4 * q + 1)) hx hb hC.hX hC.hbl hC.hbA hS (k := 4 * q + 1) (m_add rfl rfl) (by omega) hC.hL rfl dL_law_661 ?_
    refine lv_aload_n hx hb dL_law_662 rfl (lv_at hl 2 rfl) ?_
    refine lw_w (Wc := (LCh cy a s9 s9)) (Wn := (LCh cy a S9 s9)) hC (w_join_1 l G cy kS vS a.aX a.na a.tr a.sn s9.hs a.hi a.sc s9.ep s9.fc a.ob s9.σ (xs (4 * q + 1)) a.oA s9.fo hC.hl9 hI.1.1 z1) (vx_cwSW 3 hC.S9.2.2.2.2 gL_law_L_join rfl rfl rfl (by decide +kernel) ⟨Nat.le_of_ble_eq_true rfl, Nat.le_of_ble_eq_true rfl⟩) [0, 1, 24] rfl (by decide) (SameL.cons SameA.rf (SameL.cons SameA.rf (SameL.cons SameA.rf SameL.nil))) (by subst eS; rfl) hP hD hS rfl hl.1 rfl (Nat.le_of_ble_eq_true rfl) ⟨hc1, hs1⟩ dL_law_663 (fun H locs hP hD hS => ?_)
    refine lv_istore (lv' := [(6, .int 1), (5, .int (nI (4 * q))), (4, .ref a.oD), (3, .ref a.oA), (2, .ref a.am), (1, .ref a.aX), (0, .ref b)]) hx hb dL_law_666 hl (by decide) rfl (fun ls hl => ?_)
    refine lv_aload_n hx hb dL_law_668 rfl (lv_at hl 4 rfl) ?_
    refine lv_aload_n hx hb dL_law_669 rfl (lv_at hl 6 rfl) ?_
    refine lv_iload hx hb dL_law_670 (lv_at hl 1 rfl) ?_
    refine lv_iconst (v := 1) hx hb dL_law_672 (by decide) ?_
    refine lv_iadd hx hb dL_law_673 ?_
    refine m_sld (v := xs (4 * q + 1)) hx hb hC.hX hC.hbl hC.hbA hS (k := 4 * q + 1) (m_add rfl rfl) (by omega) hC.hL rfl dL_law_674 ?_
    refine lw_m (s1 := S9) (t1 := s9) (Wn := (LCh cy a S9 S9)) hC (c_X8_join_no l G cy a.am a.aS a.aBf a.aAs a.aSv a.aPa a.aOu a.aTx a.aCo s9.ct s9.nb s9.LN ((s9.x0).1) s9.CM s9.hs s9.th (bI (s9.x0).2) s9.ep s9.fc s9.σ (xs (4 * q + 1)) s9.fB hI.1.1 (by rw [z1]; decide) (by rw [z1]; decide)) (cwV 1 hC.S9.2.2.2.2 gL_law_X8_join rfl rfl rfl (by decide +kernel) ⟨Nat.le_of_ble_eq_true rfl, Nat.le_of_ble_eq_true rfl⟩) [15, 16, 17] rfl (by decide) (SameR.cons (SameR.cons (SameR.cons SameR.nil))) (by subst eS; rfl) hP hD hS rfl hl.1 rfl (Nat.le_of_ble_eq_true rfl) ⟨hc1, hs1⟩ dL_law_675 (fun H locs hP hD hS => ?_)
    refine lv_istore (lv' := [(7, .int 0), (6, .int 1), (5, .int (nI (4 * q))), (4, .ref a.oD), (3, .ref a.oA), (2, .ref a.am), (1, .ref a.aX), (0, .ref b)]) hx hb dL_law_678 hl (by decide) rfl (fun ls hl => ?_)
    refine lv_aload_n hx hb dL_law_680 rfl (lv_at hl 5 rfl) ?_
    refine lw_thrown (s1 := S9) (t1 := S9) (k := mcJ (admF (nB s9.σ) (vB s9.σ) (hB s9.σ) (mB s9.σ) (xs (4 * q + 1)))) hC hP (by subst eS; rfl) hl.1 (Nat.le_of_ble_eq_true rfl) ⟨hc1, hs1⟩ dL_law_681 ?_
    refine lv_iload hx hb dL_law_684 (lv_at hl 1 rfl) ?_
    refine lv_icmp_eq (tgt := 691) hx hb dL_law_686 (by decide) (fun c_686 => ?_) (fun c_686 => ?_)
    rotate_left
    · exact absurd (by rw [z1]; rfl) c_686
    refine lv_iload hx hb dL_law_691 (lv_at hl 1 rfl) ?_
    refine lv_if_ne (tgt := 708) hx hb dL_law_693 (by decide) (fun c_693 => ?_) (fun c_693 => ?_)
    rotate_left
    · exact absurd c_693 (by decide)
    refine lv_goto (tgt := 2890) hx hb dL_law_708 (by decide) ?_
    exact kk S9 H locs ls (LI.of (LI.mono hI (by omega)) (by subst eS; rfl) (by subst eS; rfl) (by subst eS; rfl) (by subst eS; rfl) (by subst eS; rfl) (by subst eS; rfl) (by subst eS; rfl) (by subst eS; rfl) (by subst eS; rfl) (by subst eS; rfl) (by subst eS; rfl) (by subst eS; rfl) (by subst eS; rfl) (by subst eS; rfl) (by subst eS; rfl)) hP hD hS (lv_sub hl [2, 3, 4, 5, 6, 7] rfl)
  · obtain ⟨S9, eS⟩ : ∃ z : LwS, z = (LwS.mk s9.σ s9.υ s9.ς s9.hs s9.ep s9.fc s9.ml (mcJ (admF (nB s9.σ) (vB s9.σ) (hB s9.σ) (mB s9.σ) (xs (4 * q + 1)))) s9.nx s9.ct s9.nb s9.n s9.LN s9.CM s9.ρ s9.x s9.x0 s9.f s9.gk s9.g1 s9.g2 s9.g3 s9.fb (encS s9.σ) s9.fA s9.fV s9.fP s9.fO s9.g s9.fo s9.fd) := ⟨_, rfl⟩
    refine lv_aload_n hx hb dL_law_655 rfl (lv_at hl 4 rfl) ?_
    refine lv_aload_n hx hb dL_law_656 rfl (lv_at hl 5 rfl) ?_
    refine lv_iload hx hb dL_law_657 (lv_at hl 0 rfl) ?_
    refine lv_iconst (v := 1) hx hb dL_law_659 (by decide) ?_
    refine lv_iadd hx hb dL_law_660 ?_
    refine m_sld (v := xs (4 * q + 1)) hx hb hC.hX hC.hbl hC.hbA hS (k := 4 * q + 1) (m_add rfl rfl) (by omega) hC.hL rfl dL_law_661 ?_
    refine lv_aload_n hx hb dL_law_662 rfl (lv_at hl 2 rfl) ?_
    refine lw_w (Wc := (LCh cy a s9 s9)) (Wn := (LCh cy a S9 s9)) hC (w_join_3 l G cy kS vS a.aX a.na a.tr a.sn s9.hs a.hi a.sc s9.ep s9.fc a.ob s9.σ (xs (4 * q + 1)) a.oA s9.fo hC.hl9 hI.1.1 z3) (vx_cwSW 3 hC.S9.2.2.2.2 gL_law_L_join rfl rfl rfl (by decide +kernel) ⟨Nat.le_of_ble_eq_true rfl, Nat.le_of_ble_eq_true rfl⟩) [0, 1, 24] rfl (by decide) (SameL.cons SameA.rf (SameL.cons SameA.rf (SameL.cons SameA.rf SameL.nil))) (by subst eS; rfl) hP hD hS rfl hl.1 rfl (Nat.le_of_ble_eq_true rfl) ⟨hc1, hs1⟩ dL_law_663 (fun H locs hP hD hS => ?_)
    refine lv_istore (lv' := [(6, .int 2), (5, .int (nI (4 * q))), (4, .ref a.oD), (3, .ref a.oA), (2, .ref a.am), (1, .ref a.aX), (0, .ref b)]) hx hb dL_law_666 hl (by decide) rfl (fun ls hl => ?_)
    refine lv_aload_n hx hb dL_law_668 rfl (lv_at hl 4 rfl) ?_
    refine lv_aload_n hx hb dL_law_669 rfl (lv_at hl 6 rfl) ?_
    refine lv_iload hx hb dL_law_670 (lv_at hl 1 rfl) ?_
    refine lv_iconst (v := 1) hx hb dL_law_672 (by decide) ?_
    refine lv_iadd hx hb dL_law_673 ?_
    refine m_sld (v := xs (4 * q + 1)) hx hb hC.hX hC.hbl hC.hbA hS (k := 4 * q + 1) (m_add rfl rfl) (by omega) hC.hL rfl dL_law_674 ?_
    refine lw_m (s1 := S9) (t1 := s9) (Wn := (LCh cy a S9 S9)) hC (c_X8_join_no l G cy a.am a.aS a.aBf a.aAs a.aSv a.aPa a.aOu a.aTx a.aCo s9.ct s9.nb s9.LN ((s9.x0).1) s9.CM s9.hs s9.th (bI (s9.x0).2) s9.ep s9.fc s9.σ (xs (4 * q + 1)) s9.fB hI.1.1 (by rw [z3]; decide) (by rw [z3]; decide)) (cwV 1 hC.S9.2.2.2.2 gL_law_X8_join rfl rfl rfl (by decide +kernel) ⟨Nat.le_of_ble_eq_true rfl, Nat.le_of_ble_eq_true rfl⟩) [15, 16, 17] rfl (by decide) (SameR.cons (SameR.cons (SameR.cons SameR.nil))) (by subst eS; rfl) hP hD hS rfl hl.1 rfl (Nat.le_of_ble_eq_true rfl) ⟨hc1, hs1⟩ dL_law_675 (fun H locs hP hD hS => ?_)
    refine lv_istore (lv' := [(7, .int 0), (6, .int 2), (5, .int (nI (4 * q))), (4, .ref a.oD), (3, .ref a.oA), (2, .ref a.am), (1, .ref a.aX), (0, .ref b)]) hx hb dL_law_678 hl (by decide) rfl (fun ls hl => ?_)
    refine lv_aload_n hx hb dL_law_680 rfl (lv_at hl 5 rfl) ?_
    refine lw_thrown (s1 := S9) (t1 := S9) (k := mcJ (admF (nB s9.σ) (vB s9.σ) (hB s9.σ) (mB s9.σ) (xs (4 * q + 1)))) hC hP (by subst eS; rfl) hl.1 (Nat.le_of_ble_eq_true rfl) ⟨hc1, hs1⟩ dL_law_681 ?_
    refine lv_iload hx hb dL_law_684 (lv_at hl 1 rfl) ?_
    refine lv_icmp_eq (tgt := 691) hx hb dL_law_686 (by decide) (fun c_686 => ?_) (fun c_686 => ?_)
    rotate_left
    · exact absurd (by rw [z3]; rfl) c_686
    refine lv_iload hx hb dL_law_691 (lv_at hl 1 rfl) ?_
    refine lv_if_ne (tgt := 708) hx hb dL_law_693 (by decide) (fun c_693 => ?_) (fun c_693 => ?_)
    rotate_left
    · exact absurd c_693 (by decide)
    refine lv_goto (tgt := 2890) hx hb dL_law_708 (by decide) ?_
    exact kk S9 H locs ls (LI.of (LI.mono hI (by omega)) (by subst eS; rfl) (by subst eS; rfl) (by subst eS; rfl) (by subst eS; rfl) (by subst eS; rfl) (by subst eS; rfl) (by subst eS; rfl) (by subst eS; rfl) (by subst eS; rfl) (by subst eS; rfl) (by subst eS; rfl) (by subst eS; rfl) (by subst eS; rfl) (by subst eS; rfl) (by subst eS; rfl)) hP hD hS (lv_sub hl [2, 3, 4, 5, 6, 7] rfl)
  · obtain ⟨S9, eS⟩ : ∃ z : LwS, z = (LwS.mk s9.σ s9.υ s9.ς s9.hs s9.ep s9.fc s9.ml (mcJ (admF (nB s9.σ) (vB s9.σ) (hB s9.σ) (mB s9.σ) (xs (4 * q + 1)))) s9.nx s9.ct s9.nb s9.n s9.LN s9.CM s9.ρ s9.x s9.x0 s9.f s9.gk s9.g1 s9.g2 s9.g3 s9.fb (encS s9.σ) s9.fA s9.fV s9.fP s9.fO s9.g s9.fo s9.fd) := ⟨_, rfl⟩
    refine lv_aload_n hx hb dL_law_655 rfl (lv_at hl 4 rfl) ?_
    refine lv_aload_n hx hb dL_law_656 rfl (lv_at hl 5 rfl) ?_
    refine lv_iload hx hb dL_law_657 (lv_at hl 0 rfl) ?_
    refine lv_iconst (v := 1) hx hb dL_law_659 (by decide) ?_
    refine lv_iadd hx hb dL_law_660 ?_
    refine m_sld (v := xs (4 * q + 1)) hx hb hC.hX hC.hbl hC.hbA hS (k := 4 * q + 1) (m_add rfl rfl) (by omega) hC.hL rfl dL_law_661 ?_
    refine lv_aload_n hx hb dL_law_662 rfl (lv_at hl 2 rfl) ?_
    refine lw_w (Wc := (LCh cy a s9 s9)) (Wn := (LCh cy a S9 s9)) hC (w_join_5 l G cy kS vS a.aX a.na a.tr a.sn s9.hs a.hi a.sc s9.ep s9.fc a.ob s9.σ (xs (4 * q + 1)) a.oA s9.fo hC.hl9 hI.1.1 z5) (vx_cwSW 3 hC.S9.2.2.2.2 gL_law_L_join rfl rfl rfl (by decide +kernel) ⟨Nat.le_of_ble_eq_true rfl, Nat.le_of_ble_eq_true rfl⟩) [0, 1, 24] rfl (by decide) (SameL.cons SameA.rf (SameL.cons SameA.rf (SameL.cons SameA.rf SameL.nil))) (by subst eS; rfl) hP hD hS rfl hl.1 rfl (Nat.le_of_ble_eq_true rfl) ⟨hc1, hs1⟩ dL_law_663 (fun H locs hP hD hS => ?_)
    refine lv_istore (lv' := [(6, .int 3), (5, .int (nI (4 * q))), (4, .ref a.oD), (3, .ref a.oA), (2, .ref a.am), (1, .ref a.aX), (0, .ref b)]) hx hb dL_law_666 hl (by decide) rfl (fun ls hl => ?_)
    refine lv_aload_n hx hb dL_law_668 rfl (lv_at hl 4 rfl) ?_
    refine lv_aload_n hx hb dL_law_669 rfl (lv_at hl 6 rfl) ?_
    refine lv_iload hx hb dL_law_670 (lv_at hl 1 rfl) ?_
    refine lv_iconst (v := 1) hx hb dL_law_672 (by decide) ?_
    refine lv_iadd hx hb dL_law_673 ?_
    refine m_sld (v := xs (4 * q + 1)) hx hb hC.hX hC.hbl hC.hbA hS (k := 4 * q + 1) (m_add rfl rfl) (by omega) hC.hL rfl dL_law_674 ?_
    refine lw_m (s1 := S9) (t1 := s9) (Wn := (LCh cy a S9 S9)) hC (c_X8_join_no l G cy a.am a.aS a.aBf a.aAs a.aSv a.aPa a.aOu a.aTx a.aCo s9.ct s9.nb s9.LN ((s9.x0).1) s9.CM s9.hs s9.th (bI (s9.x0).2) s9.ep s9.fc s9.σ (xs (4 * q + 1)) s9.fB hI.1.1 (by rw [z5]; decide) (by rw [z5]; decide)) (cwV 1 hC.S9.2.2.2.2 gL_law_X8_join rfl rfl rfl (by decide +kernel) ⟨Nat.le_of_ble_eq_true rfl, Nat.le_of_ble_eq_true rfl⟩) [15, 16, 17] rfl (by decide) (SameR.cons (SameR.cons (SameR.cons SameR.nil))) (by subst eS; rfl) hP hD hS rfl hl.1 rfl (Nat.le_of_ble_eq_true rfl) ⟨hc1, hs1⟩ dL_law_675 (fun H locs hP hD hS => ?_)
    refine lv_istore (lv' := [(7, .int 0), (6, .int 3), (5, .int (nI (4 * q))), (4, .ref a.oD), (3, .ref a.oA), (2, .ref a.am), (1, .ref a.aX), (0, .ref b)]) hx hb dL_law_678 hl (by decide) rfl (fun ls hl => ?_)
    refine lv_aload_n hx hb dL_law_680 rfl (lv_at hl 5 rfl) ?_
    refine lw_thrown (s1 := S9) (t1 := S9) (k := mcJ (admF (nB s9.σ) (vB s9.σ) (hB s9.σ) (mB s9.σ) (xs (4 * q + 1)))) hC hP (by subst eS; rfl) hl.1 (Nat.le_of_ble_eq_true rfl) ⟨hc1, hs1⟩ dL_law_681 ?_
    refine lv_iload hx hb dL_law_684 (lv_at hl 1 rfl) ?_
    refine lv_icmp_eq (tgt := 691) hx hb dL_law_686 (by decide) (fun c_686 => ?_) (fun c_686 => ?_)
    rotate_left
    · exact absurd (by rw [z5]; rfl) c_686
    refine lv_iload hx hb dL_law_691 (lv_at hl 1 rfl) ?_
    refine lv_if_ne (tgt := 708) hx hb dL_law_693 (by decide) (fun c_693 => ?_) (fun c_693 => ?_)
    rotate_left
    · exact absurd c_693 (by decide)
    refine lv_goto (tgt := 2890) hx hb dL_law_708 (by decide) ?_
    exact kk S9 H locs ls (LI.of (LI.mono hI (by omega)) (by subst eS; rfl) (by subst eS; rfl) (by subst eS; rfl) (by subst eS; rfl) (by subst eS; rfl) (by subst eS; rfl) (by subst eS; rfl) (by subst eS; rfl) (by subst eS; rfl) (by subst eS; rfl) (by subst eS; rfl) (by subst eS; rfl) (by subst eS; rfl) (by subst eS; rfl) (by subst eS; rfl)) hP hD hS (lv_sub hl [2, 3, 4, 5, 6, 7] rfl)

set_option maxRecDepth 100000 in
set_option maxHeartbeats 4000000 in
theorem case_6 {p : Program} {l : Launch} {e : Env} {s : State} {m : MethodId} {below : List Frame} {meth : Method} {cq : Code} {G : va_G} {cy : Nat → ClassId} {kS vS : Nat → Nat} {A : Nat → Prop} {a : LA} {b L q : Nat} {xs : Nat → Int32} {Q : State → Prop} {n0 cells slots : Nat} (hC : LC l p s m meth cq G cy kS vS A b L xs) (hq : 4 * q + 4 ≤ L) (hn0 : n0 < 1000000) (hc1 : cells + 1 ≤ room_1.cells) (hs1 : slots + 6 ≤ room_1.slots) (kk : LGo p l e s m below meth cq G cy A a b q Q (n0 + 300) (cells + 1) (slots + 6) 2890) : LGo p l e s m below meth cq G cy A a b q Q n0 cells slots 711 := by
  intro s9 H locs ls hI hP hD hS hl
  obtain ⟨hx, hb, hml, hown, hts⟩ := id hC.S9
  have hL9 := hC.hL
  have hc0 : cells + 0 ≤ room_1.cells := Nat.le_of_succ_le hc1
  have hcn : cells ≤ room_1.cells := Nat.le_of_succ_le hc1
  have hs0 : slots + 0 ≤ room_1.slots := Nat.le_trans (Nat.le_add_right slots 6) hs1
  have hsn : slots ≤ room_1.slots := Nat.le_trans (Nat.le_add_right slots 6) hs1
  have ho := hI.1.1
  have hN0 := ho.1
  have hM0 := ho.2.1
  have hE0 := ho.2.2.1
  have hnx := hI.2.2.2.2.1
  have hct := hI.2.2.2.2.2.1
  rcases disF_v (nB s9.σ) (mB s9.σ) (xs (4 * q + 1)) with z0 | z1 | z3
  · obtain ⟨⟨e1, hj⟩, -⟩ := disF_0 hN0 z0
    obtain ⟨S9, eS⟩ : ∃ z : LwS, z = (LwS.mk (disS (bx (xs (4 * q + 1))) s9.σ) s9.υ s9.ς s9.hs s9.ep s9.fc s9.ml 0 ((s9.nx + 1) % 8) (kInc s9.ct) s9.nb s9.n s9.LN s9.CM (updR s9.ρ s9.nx s9.σ) s9.x s9.x0 s9.f s9.gk s9.g1 s9.g2 s9.g3 s9.fb (encS s9.σ) s9.fA s9.fV (pastP s9.ct s9.fP (encS s9.σ)) s9.fO s9.g (fun _ => (cntM (mB (disS (bx (xs (4 * q + 1))) s9.σ)) (nB (disS (bx (xs (4 * q + 1))) s9.σ))).toInt64) s9.fd) := ⟨_, rfl⟩
    refine lv_aload_n hx hb dL_law_711 rfl (lv_at hl 4 rfl) ?_
    refine lv_aload_n hx hb dL_law_712 rfl (lv_at hl 5 rfl) ?_
    refine lv_iload hx hb dL_law_713 (lv_at hl 0 rfl) ?_
    refine lv_iconst (v := 1) hx hb dL_law_715 (by decide) ?_
    refine lv_iadd hx hb dL_law_716 ?_
    refine m_sld (v := nI (bx (xs (4 * q + 1)))) hx hb hC.hX hC.hbl hC.hbA hS (k := 4 * q + 1) (m_add rfl rfl) (by omega) hC.hL e1 dL_law_717 ?_
    refine lv_aload_n hx hb dL_law_718 rfl (lv_at hl 2 rfl) ?_
    refine lw_w (Wc := (LCh cy a s9 s9)) (Wn := (LCh cy a S9 s9)) hC (w_leave_ok l G cy kS vS a.aX a.na a.tr a.sn s9.hs a.hi a.sc s9.ep s9.fc a.ob a.hA s9.nx s9.ct a.ra s9.ρ s9.σ (bx (xs (4 * q + 1))) a.oA s9.fo hI.1.1 hnx hct hj (by rw [← e1]; exact z0)) (vx_cwSW 3 hC.S9.2.2.2.2 gL_law_L_leave rfl rfl rfl (by decide +kernel) ⟨Nat.le_of_ble_eq_true rfl, Nat.le_of_ble_eq_true rfl⟩) [0, 1, 4, 5, 6, 24] rfl (by decide) (SameL.cons SameA.rf (SameL.cons SameA.st (SameL.cons SameA.one (SameL.cons SameA.rf (SameL.cons SameA.ring (SameL.cons SameA.one SameL.nil)))))) (by subst eS; rfl) hP hD hS rfl hl.1 rfl (Nat.le_of_ble_eq_true rfl) ⟨hc0, hs0⟩ dL_law_719 (fun H locs hP hD hS => ?_)
    refine lv_istore (lv' := [(6, .int 0), (5, .int (nI (4 * q))), (4, .ref a.oD), (3, .ref a.oA), (2, .ref a.am), (1, .ref a.aX), (0, .ref b)]) hx hb dL_law_722 hl (by decide) rfl (fun ls hl => ?_)
    refine lv_aload_n hx hb dL_law_724 rfl (lv_at hl 4 rfl) ?_
    refine lv_aload_n hx hb dL_law_725 rfl (lv_at hl 6 rfl) ?_
    refine lv_iload hx hb dL_law_726 (lv_at hl 1 rfl) ?_
    refine lv_iconst (v := 1) hx hb dL_law_728 (by decide) ?_
    refine lv_iadd hx hb dL_law_729 ?_
    refine m_sld (v := xs (4 * q + 1)) hx hb hC.hX hC.hbl hC.hbA hS (k := 4 * q + 1) (m_add rfl rfl) (by omega) hC.hL rfl dL_law_730 ?_
    refine lw_m (s1 := S9) (t1 := s9) (Wn := (LCh cy a S9 S9)) hC (c_X8_leave_ok l G cy a.am a.aS a.aBf a.aAs a.aSv a.aPa a.aOu a.aTx a.aCo s9.ct s9.nb s9.LN ((s9.x0).1) s9.CM s9.hs s9.th (bI (s9.x0).2) s9.ep s9.fc s9.σ (xs (4 * q + 1)) s9.fB s9.fP hI.1.1 hct e1 z0) (cwV 1 hC.S9.2.2.2.2 gL_law_X8_leave rfl rfl rfl (by decide +kernel) ⟨Nat.le_of_ble_eq_true rfl, Nat.le_of_ble_eq_true rfl⟩) [15, 16, 17, 20] rfl (by decide) (SameR.cons (SameR.cons (SameR.cons (SameR.cons SameR.nil)))) (by subst eS; rfl) hP hD hS rfl hl.1 rfl (Nat.le_of_ble_eq_true rfl) ⟨hcn, hsn⟩ dL_law_731 (fun H locs hP hD hS => ?_)
    refine lv_istore (lv' := [(7, .int (cntM (upd (mB s9.σ) (bx (xs (4 * q + 1))) 0) (nB s9.σ))), (6, .int 0), (5, .int (nI (4 * q))), (4, .ref a.oD), (3, .ref a.oA), (2, .ref a.am), (1, .ref a.aX), (0, .ref b)]) hx hb dL_law_734 hl (by decide) rfl (fun ls hl => ?_)
    refine lv_aload_n hx hb dL_law_736 rfl (lv_at hl 5 rfl) ?_
    refine lw_thrown (s1 := S9) (t1 := S9) (k := 0) hC hP (by subst eS; rfl) hl.1 (Nat.le_of_ble_eq_true rfl) ⟨hcn, hsn⟩ dL_law_737 ?_
    refine lv_iload hx hb dL_law_740 (lv_at hl 1 rfl) ?_
    refine lv_icmp_eq (tgt := 747) hx hb dL_law_742 (by decide) (fun c_742 => ?_) (fun c_742 => ?_)
    rotate_left
    · exact absurd c_742 (by decide)
    refine lv_iload hx hb dL_law_747 (lv_at hl 1 rfl) ?_
    refine lv_if_ne (tgt := 764) hx hb dL_law_749 (by decide) (fun c_749 => ?_) (fun c_749 => ?_)
    · exact absurd c_749 (by decide)
    refine lv_aload_n hx hb dL_law_752 rfl (lv_at hl 4 rfl) ?_
    refine lv_iconst (v := 0) hx hb dL_law_753 (by decide) ?_
    refine lw_ldL (s1 := S9) (t1 := S9) (x := (cntM (mB (disS (bx (xs (4 * q + 1))) s9.σ)) (nB (disS (bx (xs (4 * q + 1))) s9.σ))).toInt64) hC hP (by subst eS; rfl) dL_law_754 ?_
    refine lv_iload hx hb dL_law_755 (lv_at hl 0 rfl) ?_
    refine lv_i2l hx hb dL_law_757 rfl ?_
    refine m_lcmp0 hx hb rfl dL_law_758 ?_
    refine lv_if_eq (tgt := 764) hx hb dL_law_759 (by decide) (fun c_759 => ?_) (fun c_759 => ?_)
    rotate_left
    · exact absurd c_759 (by decide)
    refine lv_goto (tgt := 2890) hx hb dL_law_764 (by decide) ?_
    refine W.widen (k := cells + 1) (n := slots + 6) (by omega) (by omega) ?_
    exact kk S9 H locs ls (LI.of (LI.push hI ((inv_disS hI.1 _).mono (by omega))) (by subst eS; rfl) (by subst eS; rfl) (by subst eS; rfl) (by subst eS; rfl) (by subst eS; rfl) (by subst eS; rfl) (by subst eS; rfl) (by subst eS; rfl) (by subst eS; rfl) (by subst eS; rfl) (by subst eS; rfl) (by subst eS; rfl) (by subst eS; rfl) (by subst eS; rfl) (by subst eS; rfl)) hP hD hS (lv_sub hl [2, 3, 4, 5, 6, 7] rfl)
  · obtain ⟨S9, eS⟩ : ∃ z : LwS, z = (LwS.mk s9.σ s9.υ s9.ς s9.hs s9.ep s9.fc s9.ml (mcL (disF (nB s9.σ) (mB s9.σ) (xs (4 * q + 1)))) s9.nx s9.ct s9.nb s9.n s9.LN s9.CM s9.ρ s9.x s9.x0 s9.f s9.gk s9.g1 s9.g2 s9.g3 s9.fb (encS s9.σ) s9.fA s9.fV s9.fP s9.fO s9.g s9.fo s9.fd) := ⟨_, rfl⟩
    refine lv_aload_n hx hb dL_law_711 rfl (lv_at hl 4 rfl) ?_
    refine lv_aload_n hx hb dL_law_712 rfl (lv_at hl 5 rfl) ?_
    refine lv_iload hx hb dL_law_713 (lv_at hl 0 rfl) ?_
    refine lv_iconst (v := 1) hx hb dL_law_715 (by decide) ?_
    refine lv_iadd hx hb dL_law_716 ?_
    refine m_sld (v := xs (4 * q + 1)) hx hb hC.hX hC.hbl hC.hbA hS (k := 4 * q + 1) (m_add rfl rfl) (by omega) hC.hL rfl dL_law_717 ?_
    refine lv_aload_n hx hb dL_law_718 rfl (lv_at hl 2 rfl) ?_
    refine lw_w (Wc := (LCh cy a s9 s9)) (Wn := (LCh cy a S9 s9)) hC (w_leave_1 l G cy kS vS a.aX a.na a.tr a.sn s9.hs a.hi a.sc s9.ep s9.fc a.ob s9.σ (xs (4 * q + 1)) a.oA s9.fo hC.hl9 hI.1.1 z1) (vx_cwSW 3 hC.S9.2.2.2.2 gL_law_L_leave rfl rfl rfl (by decide +kernel) ⟨Nat.le_of_ble_eq_true rfl, Nat.le_of_ble_eq_true rfl⟩) [0, 1, 24] rfl (by decide) (SameL.cons SameA.rf (SameL.cons SameA.rf (SameL.cons SameA.rf SameL.nil))) (by subst eS; rfl) hP hD hS rfl hl.1 rfl (Nat.le_of_ble_eq_true rfl) ⟨hc1, hs1⟩ dL_law_719 (fun H locs hP hD hS => ?_)
    refine lv_istore (lv' := [(6, .int 1), (5, .int (nI (4 * q))), (4, .ref a.oD), (3, .ref a.oA), (2, .ref a.am), (1, .ref a.aX), (0, .ref b)]) hx hb dL_law_722 hl (by decide) rfl (fun ls hl => ?_)
    refine lv_aload_n hx hb dL_law_724 rfl (lv_at hl 4 rfl) ?_
    refine lv_aload_n hx hb dL_law_725 rfl (lv_at hl 6 rfl) ?_
    refine lv_iload hx hb dL_law_726 (lv_at hl 1 rfl) ?_
    refine lv_iconst (v := 1) hx hb dL_law_728 (by decide) ?_
    refine lv_iadd hx hb dL_law_729 ?_
    refine m_sld (v := xs (4 * q + 1)) hx hb hC.hX hC.hbl hC.hbA hS (k := 4 * q + 1) (m_add rfl rfl) (by omega) hC.hL rfl dL_law_730 ?_
    refine lw_m (s1 := S9) (t1 := s9) (Wn := (LCh cy a S9 S9)) hC (c_X8_leave_no l G cy a.am a.aS a.aBf a.aAs a.aSv a.aPa a.aOu a.aTx a.aCo s9.ct s9.nb s9.LN ((s9.x0).1) s9.CM s9.hs s9.th (bI (s9.x0).2) s9.ep s9.fc s9.σ (xs (4 * q + 1)) s9.fB hI.1.1 (by rw [z1]; decide) (by rw [z1]; decide)) (cwV 1 hC.S9.2.2.2.2 gL_law_X8_leave rfl rfl rfl (by decide +kernel) ⟨Nat.le_of_ble_eq_true rfl, Nat.le_of_ble_eq_true rfl⟩) [15, 16, 17] rfl (by decide) (SameR.cons (SameR.cons (SameR.cons SameR.nil))) (by subst eS; rfl) hP hD hS rfl hl.1 rfl (Nat.le_of_ble_eq_true rfl) ⟨hc1, hs1⟩ dL_law_731 (fun H locs hP hD hS => ?_)
    refine lv_istore (lv' := [(7, .int 0), (6, .int 1), (5, .int (nI (4 * q))), (4, .ref a.oD), (3, .ref a.oA), (2, .ref a.am), (1, .ref a.aX), (0, .ref b)]) hx hb dL_law_734 hl (by decide) rfl (fun ls hl => ?_)
    refine lv_aload_n hx hb dL_law_736 rfl (lv_at hl 5 rfl) ?_
    refine lw_thrown (s1 := S9) (t1 := S9) (k := mcL (disF (nB s9.σ) (mB s9.σ) (xs (4 * q + 1)))) hC hP (by subst eS; rfl) hl.1 (Nat.le_of_ble_eq_true rfl) ⟨hc1, hs1⟩ dL_law_737 ?_
    refine lv_iload hx hb dL_law_740 (lv_at hl 1 rfl) ?_
    refine lv_icmp_eq (tgt := 747) hx hb dL_law_742 (by decide) (fun c_742 => ?_) (fun c_742 => ?_)
    rotate_left
    · exact absurd (by rw [z1]; rfl) c_742
    refine lv_iload hx hb dL_law_747 (lv_at hl 1 rfl) ?_
    refine lv_if_ne (tgt := 764) hx hb dL_law_749 (by decide) (fun c_749 => ?_) (fun c_749 => ?_)
    rotate_left
    · exact absurd c_749 (by decide)
    refine lv_goto (tgt := 2890) hx hb dL_law_764 (by decide) ?_
    exact kk S9 H locs ls (LI.of (LI.mono hI (by omega)) (by subst eS; rfl) (by subst eS; rfl) (by subst eS; rfl) (by subst eS; rfl) (by subst eS; rfl) (by subst eS; rfl) (by subst eS; rfl) (by subst eS; rfl) (by subst eS; rfl) (by subst eS; rfl) (by subst eS; rfl) (by subst eS; rfl) (by subst eS; rfl) (by subst eS; rfl) (by subst eS; rfl)) hP hD hS (lv_sub hl [2, 3, 4, 5, 6, 7] rfl)
  · obtain ⟨S9, eS⟩ : ∃ z : LwS, z = (LwS.mk s9.σ s9.υ s9.ς s9.hs s9.ep s9.fc s9.ml (mcL (disF (nB s9.σ) (mB s9.σ) (xs (4 * q + 1)))) s9.nx s9.ct s9.nb s9.n s9.LN s9.CM s9.ρ s9.x s9.x0 s9.f s9.gk s9.g1 s9.g2 s9.g3 s9.fb (encS s9.σ) s9.fA s9.fV s9.fP s9.fO s9.g s9.fo s9.fd) := ⟨_, rfl⟩
    refine lv_aload_n hx hb dL_law_711 rfl (lv_at hl 4 rfl) ?_
    refine lv_aload_n hx hb dL_law_712 rfl (lv_at hl 5 rfl) ?_
    refine lv_iload hx hb dL_law_713 (lv_at hl 0 rfl) ?_
    refine lv_iconst (v := 1) hx hb dL_law_715 (by decide) ?_
    refine lv_iadd hx hb dL_law_716 ?_
    refine m_sld (v := xs (4 * q + 1)) hx hb hC.hX hC.hbl hC.hbA hS (k := 4 * q + 1) (m_add rfl rfl) (by omega) hC.hL rfl dL_law_717 ?_
    refine lv_aload_n hx hb dL_law_718 rfl (lv_at hl 2 rfl) ?_
    refine lw_w (Wc := (LCh cy a s9 s9)) (Wn := (LCh cy a S9 s9)) hC (w_leave_3 l G cy kS vS a.aX a.na a.tr a.sn s9.hs a.hi a.sc s9.ep s9.fc a.ob s9.σ (xs (4 * q + 1)) a.oA s9.fo hC.hl9 hI.1.1 z3) (vx_cwSW 3 hC.S9.2.2.2.2 gL_law_L_leave rfl rfl rfl (by decide +kernel) ⟨Nat.le_of_ble_eq_true rfl, Nat.le_of_ble_eq_true rfl⟩) [0, 1, 24] rfl (by decide) (SameL.cons SameA.rf (SameL.cons SameA.rf (SameL.cons SameA.rf SameL.nil))) (by subst eS; rfl) hP hD hS rfl hl.1 rfl (Nat.le_of_ble_eq_true rfl) ⟨hc1, hs1⟩ dL_law_719 (fun H locs hP hD hS => ?_)
    refine lv_istore (lv' := [(6, .int 2), (5, .int (nI (4 * q))), (4, .ref a.oD), (3, .ref a.oA), (2, .ref a.am), (1, .ref a.aX), (0, .ref b)]) hx hb dL_law_722 hl (by decide) rfl (fun ls hl => ?_)
    refine lv_aload_n hx hb dL_law_724 rfl (lv_at hl 4 rfl) ?_
    refine lv_aload_n hx hb dL_law_725 rfl (lv_at hl 6 rfl) ?_
    refine lv_iload hx hb dL_law_726 (lv_at hl 1 rfl) ?_
    refine lv_iconst (v := 1) hx hb dL_law_728 (by decide) ?_
    refine lv_iadd hx hb dL_law_729 ?_
    refine m_sld (v := xs (4 * q + 1)) hx hb hC.hX hC.hbl hC.hbA hS (k := 4 * q + 1) (m_add rfl rfl) (by omega) hC.hL rfl dL_law_730 ?_
    refine lw_m (s1 := S9) (t1 := s9) (Wn := (LCh cy a S9 S9)) hC (c_X8_leave_no l G cy a.am a.aS a.aBf a.aAs a.aSv a.aPa a.aOu a.aTx a.aCo s9.ct s9.nb s9.LN ((s9.x0).1) s9.CM s9.hs s9.th (bI (s9.x0).2) s9.ep s9.fc s9.σ (xs (4 * q + 1)) s9.fB hI.1.1 (by rw [z3]; decide) (by rw [z3]; decide)) (cwV 1 hC.S9.2.2.2.2 gL_law_X8_leave rfl rfl rfl (by decide +kernel) ⟨Nat.le_of_ble_eq_true rfl, Nat.le_of_ble_eq_true rfl⟩) [15, 16, 17] rfl (by decide) (SameR.cons (SameR.cons (SameR.cons SameR.nil))) (by subst eS; rfl) hP hD hS rfl hl.1 rfl (Nat.le_of_ble_eq_true rfl) ⟨hc1, hs1⟩ dL_law_731 (fun H locs hP hD hS => ?_)
    refine lv_istore (lv' := [(7, .int 0), (6, .int 2), (5, .int (nI (4 * q))), (4, .ref a.oD), (3, .ref a.oA), (2, .ref a.am), (1, .ref a.aX), (0, .ref b)]) hx hb dL_law_734 hl (by decide) rfl (fun ls hl => ?_)
    refine lv_aload_n hx hb dL_law_736 rfl (lv_at hl 5 rfl) ?_
    refine lw_thrown (s1 := S9) (t1 := S9) (k := mcL (disF (nB s9.σ) (mB s9.σ) (xs (4 * q + 1)))) hC hP (by subst eS; rfl) hl.1 (Nat.le_of_ble_eq_true rfl) ⟨hc1, hs1⟩ dL_law_737 ?_
    refine lv_iload hx hb dL_law_740 (lv_at hl 1 rfl) ?_
    refine lv_icmp_eq (tgt := 747) hx hb dL_law_742 (by decide) (fun c_742 => ?_) (fun c_742 => ?_)
    rotate_left
    · exact absurd (by rw [z3]; rfl) c_742
    refine lv_iload hx hb dL_law_747 (lv_at hl 1 rfl) ?_
    refine lv_if_ne (tgt := 764) hx hb dL_law_749 (by decide) (fun c_749 => ?_) (fun c_749 => ?_)
    rotate_left
    · exact absurd c_749 (by decide)
    refine lv_goto (tgt := 2890) hx hb dL_law_764 (by decide) ?_
    exact kk S9 H locs ls (LI.of (LI.mono hI (by omega)) (by subst eS; rfl) (by subst eS; rfl) (by subst eS; rfl) (by subst eS; rfl) (by subst eS; rfl) (by subst eS; rfl) (by subst eS; rfl) (by subst eS; rfl) (by subst eS; rfl) (by subst eS; rfl) (by subst eS; rfl) (by subst eS; rfl) (by subst eS; rfl) (by subst eS; rfl) (by subst eS; rfl)) hP hD hS (lv_sub hl [2, 3, 4, 5, 6, 7] rfl)

set_option maxRecDepth 100000 in
set_option maxHeartbeats 4000000 in
theorem case_7 {p : Program} {l : Launch} {e : Env} {s : State} {m : MethodId} {below : List Frame} {meth : Method} {cq : Code} {G : va_G} {cy : Nat → ClassId} {kS vS : Nat → Nat} {A : Nat → Prop} {a : LA} {b L q : Nat} {xs : Nat → Int32} {Q : State → Prop} {n0 cells slots : Nat} (hC : LC l p s m meth cq G cy kS vS A b L xs) (hq : 4 * q + 4 ≤ L) (hn0 : n0 < 1000000) (hc1 : cells + 1 ≤ room_1.cells) (hs1 : slots + 6 ≤ room_1.slots) (kk : LGo p l e s m below meth cq G cy A a b q Q (n0 + 300) (cells + 1) (slots + 6) 2890) : LGo p l e s m below meth cq G cy A a b q Q n0 cells slots 767 := by
  intro s9 H locs ls hI hP hD hS hl
  obtain ⟨hx, hb, hml, hown, hts⟩ := id hC.S9
  have hL9 := hC.hL
  have hc0 : cells + 0 ≤ room_1.cells := Nat.le_of_succ_le hc1
  have hcn : cells ≤ room_1.cells := Nat.le_of_succ_le hc1
  have hs0 : slots + 0 ≤ room_1.slots := Nat.le_trans (Nat.le_add_right slots 6) hs1
  have hsn : slots ≤ room_1.slots := Nat.le_trans (Nat.le_add_right slots 6) hs1
  have ho := hI.1.1
  have hN0 := ho.1
  have hM0 := ho.2.1
  have hE0 := ho.2.2.1
  have hnx := hI.2.2.2.2.1
  have hct := hI.2.2.2.2.2.1
  rcases tikF_v (xs (4 * q + 1)) with z0 | z2
  · obtain ⟨e1, h1, h20⟩ := tikF_0 z0
    have z3 : tikF (nI (bx (xs (4 * q + 1)))) = 0 := by rw [← e1]; exact z0
    obtain ⟨S9, eS⟩ : ∃ z : LwS, z = (LwS.mk (tickN s9.σ (bx (xs (4 * q + 1)))) s9.υ s9.ς s9.hs s9.ep s9.fc s9.ml 0 ((s9.nx + 1) % 8) (kInc s9.ct) s9.nb s9.n s9.LN s9.CM (updR s9.ρ s9.nx s9.σ) s9.x s9.x0 s9.f s9.gk s9.g1 s9.g2 s9.g3 s9.fb (encS s9.σ) s9.fA s9.fV (pastP s9.ct s9.fP (encS s9.σ)) s9.fO s9.g (fun _ => (dT (tickN s9.σ (bx (xs (4 * q + 1)))) - dT s9.σ).toInt64) s9.fd) := ⟨_, rfl⟩
    refine lv_aload_n hx hb dL_law_767 rfl (lv_at hl 4 rfl) ?_
    refine lv_aload_n hx hb dL_law_768 rfl (lv_at hl 5 rfl) ?_
    refine lv_iload hx hb dL_law_769 (lv_at hl 0 rfl) ?_
    refine lv_iconst (v := 1) hx hb dL_law_771 (by decide) ?_
    refine lv_iadd hx hb dL_law_772 ?_
    refine m_sld (v := nI (bx (xs (4 * q + 1)))) hx hb hC.hX hC.hbl hC.hbA hS (k := 4 * q + 1) (m_add rfl rfl) (by omega) hC.hL e1 dL_law_773 ?_
    refine lv_aload_n hx hb dL_law_774 rfl (lv_at hl 2 rfl) ?_
    refine lw_w (Wc := (LCh cy a s9 s9)) (Wn := (LCh cy a S9 s9)) hC (w_advance_ok l G cy kS vS a.aX a.na a.tr a.sn s9.hs a.hi a.sc s9.ep s9.fc a.ob a.hA s9.nx s9.ct a.ra s9.ρ s9.σ (bx (xs (4 * q + 1))) a.oA s9.fo hI.1.1 hnx hct (by omega) z3) (vx_cwSW 3 hC.S9.2.2.2.2 gL_law_L_advance rfl rfl rfl (by decide +kernel) ⟨Nat.le_of_ble_eq_true rfl, Nat.le_of_ble_eq_true rfl⟩) [0, 1, 4, 5, 6, 24] rfl (by decide) (SameL.cons SameA.rf (SameL.cons SameA.st (SameL.cons SameA.one (SameL.cons SameA.rf (SameL.cons SameA.ring (SameL.cons SameA.one SameL.nil)))))) (by subst eS; rfl) hP hD hS rfl hl.1 rfl (Nat.le_of_ble_eq_true rfl) ⟨hc0, hs0⟩ dL_law_775 (fun H locs hP hD hS => ?_)
    refine lv_istore (lv' := [(6, .int 0), (5, .int (nI (4 * q))), (4, .ref a.oD), (3, .ref a.oA), (2, .ref a.am), (1, .ref a.aX), (0, .ref b)]) hx hb dL_law_778 hl (by decide) rfl (fun ls hl => ?_)
    refine lv_aload_n hx hb dL_law_780 rfl (lv_at hl 4 rfl) ?_
    refine lv_aload_n hx hb dL_law_781 rfl (lv_at hl 6 rfl) ?_
    refine lv_iload hx hb dL_law_782 (lv_at hl 1 rfl) ?_
    refine lv_iconst (v := 1) hx hb dL_law_784 (by decide) ?_
    refine lv_iadd hx hb dL_law_785 ?_
    refine m_sld (v := nI (bx (xs (4 * q + 1)))) hx hb hC.hX hC.hbl hC.hbA hS (k := 4 * q + 1) (m_add rfl rfl) (by omega) hC.hL e1 dL_law_786 ?_
    refine lw_m (s1 := S9) (t1 := s9) (Wn := (LCh cy a S9 S9)) hC (c_X8_advance_ok l G cy a.am a.aS a.aBf a.aAs a.aSv a.aPa a.aOu a.aTx a.aCo s9.ct s9.nb s9.LN ((s9.x0).1) s9.CM s9.hs s9.th (bI (s9.x0).2) s9.ep s9.fc s9.σ (bx (xs (4 * q + 1))) s9.fB s9.fP hI.1.1 hct (by omega) (hI.1.mids (by omega)) z3) (cwV 1 hC.S9.2.2.2.2 gL_law_X8_advance rfl rfl rfl (by decide +kernel) ⟨Nat.le_of_ble_eq_true rfl, Nat.le_of_ble_eq_true rfl⟩) [15, 16, 17, 20] rfl (by decide) (SameR.cons (SameR.cons (SameR.cons (SameR.cons SameR.nil)))) (by subst eS; rfl) hP hD hS rfl hl.1 rfl (Nat.le_of_ble_eq_true rfl) ⟨hcn, hsn⟩ dL_law_787 (fun H locs hP hD hS => ?_)
    refine lv_istore (lv' := [(7, .int (dT (tickN s9.σ (bx (xs (4 * q + 1)))) - dT s9.σ)), (6, .int 0), (5, .int (nI (4 * q))), (4, .ref a.oD), (3, .ref a.oA), (2, .ref a.am), (1, .ref a.aX), (0, .ref b)]) hx hb dL_law_790 hl (by decide) rfl (fun ls hl => ?_)
    refine lv_aload_n hx hb dL_law_792 rfl (lv_at hl 5 rfl) ?_
    refine lw_thrown (s1 := S9) (t1 := S9) (k := 0) hC hP (by subst eS; rfl) hl.1 (Nat.le_of_ble_eq_true rfl) ⟨hcn, hsn⟩ dL_law_793 ?_
    refine lv_iload hx hb dL_law_796 (lv_at hl 1 rfl) ?_
    refine lv_icmp_eq (tgt := 803) hx hb dL_law_798 (by decide) (fun c_798 => ?_) (fun c_798 => ?_)
    rotate_left
    · exact absurd c_798 (by decide)
    refine lv_iload hx hb dL_law_803 (lv_at hl 1 rfl) ?_
    refine lv_if_ne (tgt := 820) hx hb dL_law_805 (by decide) (fun c_805 => ?_) (fun c_805 => ?_)
    · exact absurd c_805 (by decide)
    refine lv_aload_n hx hb dL_law_808 rfl (lv_at hl 4 rfl) ?_
    refine lv_iconst (v := 0) hx hb dL_law_809 (by decide) ?_
    refine lw_ldL (s1 := S9) (t1 := S9) (x := (dT (tickN s9.σ (bx (xs (4 * q + 1)))) - dT s9.σ).toInt64) hC hP (by subst eS; rfl) dL_law_810 ?_
    refine lv_iload hx hb dL_law_811 (lv_at hl 0 rfl) ?_
    refine lv_i2l hx hb dL_law_813 rfl ?_
    refine m_lcmp0 hx hb rfl dL_law_814 ?_
    refine lv_if_eq (tgt := 820) hx hb dL_law_815 (by decide) (fun c_815 => ?_) (fun c_815 => ?_)
    rotate_left
    · exact absurd c_815 (by decide)
    refine lv_goto (tgt := 2890) hx hb dL_law_820 (by decide) ?_
    refine W.widen (k := cells + 1) (n := slots + 6) (by omega) (by omega) ?_
    exact kk S9 H locs ls (LI.of (LI.push hI ((inv_tickN hI.1 _ (by omega)).mono (by omega))) (by subst eS; rfl) (by subst eS; rfl) (by subst eS; rfl) (by subst eS; rfl) (by subst eS; rfl) (by subst eS; rfl) (by subst eS; rfl) (by subst eS; rfl) (by subst eS; rfl) (by subst eS; rfl) (by subst eS; rfl) (by subst eS; rfl) (by subst eS; rfl) (by subst eS; rfl) (by subst eS; rfl)) hP hD hS (lv_sub hl [2, 3, 4, 5, 6, 7] rfl)
  · obtain ⟨S9, eS⟩ : ∃ z : LwS, z = (LwS.mk s9.σ s9.υ s9.ς s9.hs s9.ep s9.fc s9.ml 1 s9.nx s9.ct s9.nb s9.n s9.LN s9.CM s9.ρ s9.x s9.x0 s9.f s9.gk s9.g1 s9.g2 s9.g3 s9.fb (encS s9.σ) s9.fA s9.fV s9.fP s9.fO s9.g s9.fo s9.fd) := ⟨_, rfl⟩
    refine lv_aload_n hx hb dL_law_767 rfl (lv_at hl 4 rfl) ?_
    refine lv_aload_n hx hb dL_law_768 rfl (lv_at hl 5 rfl) ?_
    refine lv_iload hx hb dL_law_769 (lv_at hl 0 rfl) ?_
    refine lv_iconst (v := 1) hx hb dL_law_771 (by decide) ?_
    refine lv_iadd hx hb dL_law_772 ?_
    refine m_sld (v := xs (4 * q + 1)) hx hb hC.hX hC.hbl hC.hbA hS (k := 4 * q + 1) (m_add rfl rfl) (by omega) hC.hL rfl dL_law_773 ?_
    refine lv_aload_n hx hb dL_law_774 rfl (lv_at hl 2 rfl) ?_
    refine lw_w (Wc := (LCh cy a s9 s9)) (Wn := (LCh cy a S9 s9)) hC (w_advance_2 l G cy kS vS a.aX a.na a.tr a.sn s9.hs a.hi a.sc s9.ep s9.fc a.ob s9.σ (xs (4 * q + 1)) a.oA s9.fo hC.hl9 hI.1.1 z2) (vx_cwSW 3 hC.S9.2.2.2.2 gL_law_L_advance rfl rfl rfl (by decide +kernel) ⟨Nat.le_of_ble_eq_true rfl, Nat.le_of_ble_eq_true rfl⟩) [0, 1, 24] rfl (by decide) (SameL.cons SameA.rf (SameL.cons SameA.rf (SameL.cons SameA.rf SameL.nil))) (by subst eS; rfl) hP hD hS rfl hl.1 rfl (Nat.le_of_ble_eq_true rfl) ⟨hc1, hs1⟩ dL_law_775 (fun H locs hP hD hS => ?_)
    refine lv_istore (lv' := [(6, .int 1), (5, .int (nI (4 * q))), (4, .ref a.oD), (3, .ref a.oA), (2, .ref a.am), (1, .ref a.aX), (0, .ref b)]) hx hb dL_law_778 hl (by decide) rfl (fun ls hl => ?_)
    refine lv_aload_n hx hb dL_law_780 rfl (lv_at hl 4 rfl) ?_
    refine lv_aload_n hx hb dL_law_781 rfl (lv_at hl 6 rfl) ?_
    refine lv_iload hx hb dL_law_782 (lv_at hl 1 rfl) ?_
    refine lv_iconst (v := 1) hx hb dL_law_784 (by decide) ?_
    refine lv_iadd hx hb dL_law_785 ?_
    refine m_sld (v := xs (4 * q + 1)) hx hb hC.hX hC.hbl hC.hbA hS (k := 4 * q + 1) (m_add rfl rfl) (by omega) hC.hL rfl dL_law_786 ?_
    refine lw_m (s1 := S9) (t1 := s9) (Wn := (LCh cy a S9 S9)) hC (c_X8_advance_no l G cy a.am a.aS a.aBf a.aAs a.aSv a.aPa a.aOu a.aTx a.aCo s9.ct s9.nb s9.LN ((s9.x0).1) s9.CM s9.hs s9.th (bI (s9.x0).2) s9.ep s9.fc s9.σ (xs (4 * q + 1)) s9.fB hI.1.1 (by rw [z2]; decide)) (cwV 1 hC.S9.2.2.2.2 gL_law_X8_advance rfl rfl rfl (by decide +kernel) ⟨Nat.le_of_ble_eq_true rfl, Nat.le_of_ble_eq_true rfl⟩) [15, 16, 17] rfl (by decide) (SameR.cons (SameR.cons (SameR.cons SameR.nil))) (by subst eS; rfl) hP hD hS rfl hl.1 rfl (Nat.le_of_ble_eq_true rfl) ⟨hc1, hs1⟩ dL_law_787 (fun H locs hP hD hS => ?_)
    refine lv_istore (lv' := [(7, .int 0), (6, .int 1), (5, .int (nI (4 * q))), (4, .ref a.oD), (3, .ref a.oA), (2, .ref a.am), (1, .ref a.aX), (0, .ref b)]) hx hb dL_law_790 hl (by decide) rfl (fun ls hl => ?_)
    refine lv_aload_n hx hb dL_law_792 rfl (lv_at hl 5 rfl) ?_
    refine lw_thrown (s1 := S9) (t1 := S9) (k := 1) hC hP (by subst eS; rfl) hl.1 (Nat.le_of_ble_eq_true rfl) ⟨hc1, hs1⟩ dL_law_793 ?_
    refine lv_iload hx hb dL_law_796 (lv_at hl 1 rfl) ?_
    refine lv_icmp_eq (tgt := 803) hx hb dL_law_798 (by decide) (fun c_798 => ?_) (fun c_798 => ?_)
    rotate_left
    · exact absurd c_798 (by decide)
    refine lv_iload hx hb dL_law_803 (lv_at hl 1 rfl) ?_
    refine lv_if_ne (tgt := 820) hx hb dL_law_805 (by decide) (fun c_805 => ?_) (fun c_805 => ?_)
    rotate_left
    · exact absurd c_805 (by decide)
    refine lv_goto (tgt := 2890) hx hb dL_law_820 (by decide) ?_
    exact kk S9 H locs ls (LI.of (LI.mono hI (by omega)) (by subst eS; rfl) (by subst eS; rfl) (by subst eS; rfl) (by subst eS; rfl) (by subst eS; rfl) (by subst eS; rfl) (by subst eS; rfl) (by subst eS; rfl) (by subst eS; rfl) (by subst eS; rfl) (by subst eS; rfl) (by subst eS; rfl) (by subst eS; rfl) (by subst eS; rfl) (by subst eS; rfl)) hP hD hS (lv_sub hl [2, 3, 4, 5, 6, 7] rfl)

set_option maxRecDepth 100000 in
set_option maxHeartbeats 4000000 in
theorem case_8 {p : Program} {l : Launch} {e : Env} {s : State} {m : MethodId} {below : List Frame} {meth : Method} {cq : Code} {G : va_G} {cy : Nat → ClassId} {kS vS : Nat → Nat} {A : Nat → Prop} {a : LA} {b L q : Nat} {xs : Nat → Int32} {Q : State → Prop} {n0 cells slots : Nat} (hC : LC l p s m meth cq G cy kS vS A b L xs) (hq : 4 * q + 4 ≤ L) (hn0 : n0 < 1000000) (hc1 : cells + 1 ≤ room_1.cells) (hs1 : slots + 6 ≤ room_1.slots) (kk : LGo p l e s m below meth cq G cy A a b q Q (n0 + 300) (cells + 1) (slots + 6) 2890) : LGo p l e s m below meth cq G cy A a b q Q n0 cells slots 823 := by
  intro s9 H locs ls hI hP hD hS hl
  obtain ⟨hx, hb, hml, hown, hts⟩ := id hC.S9
  have hL9 := hC.hL
  have hc0 : cells + 0 ≤ room_1.cells := Nat.le_of_succ_le hc1
  have hcn : cells ≤ room_1.cells := Nat.le_of_succ_le hc1
  have hs0 : slots + 0 ≤ room_1.slots := Nat.le_trans (Nat.le_add_right slots 6) hs1
  have hsn : slots ≤ room_1.slots := Nat.le_trans (Nat.le_add_right slots 6) hs1
  have ho := hI.1.1
  have hN0 := ho.1
  have hM0 := ho.2.1
  have hE0 := ho.2.2.1
  have hnx := hI.2.2.2.2.1
  have hct := hI.2.2.2.2.2.1
  obtain ⟨S9, eS⟩ : ∃ z : LwS, z = (LwS.mk s9.σ s9.υ s9.ς s9.hs s9.ep s9.fc s9.ml 0 s9.nx s9.ct s9.nb s9.n s9.LN s9.CM s9.ρ s9.x s9.x0 s9.f s9.gk s9.g1 s9.g2 s9.g3 s9.fb s9.fB s9.fA s9.fV s9.fP s9.fO s9.g s9.fo s9.fd) := ⟨_, rfl⟩
  refine lv_aload_n hx hb dL_law_823 rfl (lv_at hl 4 rfl) ?_
  refine c_roVi hC.S9 (c_X7_bathCount l G cy a.aX a.na a.tr a.sn s9.hs a.hi a.sc s9.ep s9.fc a.ob s9.σ hI.1.1) (cwV 0 hC.S9.2.2.2.2 gL_law_X7_bathCount rfl rfl rfl (by decide +kernel) ⟨Nat.le_of_ble_eq_true rfl, Nat.le_of_ble_eq_true rfl⟩) PB.blind (va_recv hC.hK.1 hP (ci := 11) (q0 := offs (LCh cy a s9 s9) 0 + 0) rfl ((fl_at (Wc := (LCh cy a s9 s9)) (j := 0) (i := 0) (c := [(a.aX, .inr (11, [.ref (a.na 0), .ref (a.tr 0), .ref (a.sn 0), .int s9.hs, .ref a.hi, .ref a.sc, .int s9.ep, .int s9.fc, .ref a.ob]))]) rfl (Nat.le_of_ble_eq_true rfl)).trans rfl)) (PB.at hC.hK (PpartC (Wc := (LCh cy a s9 s9)) (cs := [[(a.aX, .inr (11, [.ref (a.na 0), .ref (a.tr 0), .ref (a.sn 0), .int s9.hs, .ref a.hi, .ref a.sc, .int s9.ep, .int s9.fc, .ref a.ob]))], sWd cy a.na s9.σ]) hP [0, 1] rfl)) rfl hl.1 rfl (Nat.le_of_ble_eq_true rfl) ⟨hcn, hsn⟩ dL_law_824 ?_
  refine lv_aload_n hx hb dL_law_827 rfl (lv_at hl 3 rfl) ?_
  refine lw_m (s1 := s9) (t1 := s9) (Wn := (LCh cy a s9 S9)) hC (c_X8_bathCount l G cy a.am a.aS a.aBf a.aAs a.aSv a.aPa a.aOu a.aTx a.aCo s9.ct s9.nb s9.LN ((s9.x0).1) s9.CM s9.hs s9.th (bI (s9.x0).2) s9.ep s9.fc s9.σ hI.1.1) (cwV 0 hC.S9.2.2.2.2 gL_law_X8_bathCount rfl rfl rfl (by decide +kernel) ⟨Nat.le_of_ble_eq_true rfl, Nat.le_of_ble_eq_true rfl⟩) [15, 16] rfl (by decide) (SameR.cons (SameR.cons SameR.nil)) (by subst eS; rfl) hP hD hS rfl hl.1 rfl (Nat.le_of_ble_eq_true rfl) ⟨hcn, hsn⟩ dL_law_828 (fun H locs hP hD hS => ?_)
  refine lv_icmp_eq (tgt := 2890) hx hb dL_law_831 (by decide) (fun c_831 => ?_) (fun c_831 => ?_)
  rotate_left
  · exact absurd rfl c_831
  have hP : va_P G vwCl (fl (LCh cy a S9 S9)) H := by rw [LCh.left (s := s9) (by subst eS; rfl) (by subst eS; rfl) (by subst eS; rfl) (by subst eS; rfl) (by subst eS; rfl) (by subst eS; rfl) (by subst eS; rfl) (by subst eS; rfl) (by subst eS; rfl) (by subst eS; rfl) (by subst eS; rfl) (by subst eS; rfl) (by subst eS; rfl) (by subst eS; rfl) (by subst eS; rfl) (by subst eS; rfl) (by subst eS; rfl) (by subst eS; rfl) (by subst eS; rfl) (by subst eS; rfl) (by subst eS; rfl) (by subst eS; rfl)]; exact hP
  have hD : va_D A (fl (LCh cy a S9 S9)) := by rw [LCh.left (s := s9) (by subst eS; rfl) (by subst eS; rfl) (by subst eS; rfl) (by subst eS; rfl) (by subst eS; rfl) (by subst eS; rfl) (by subst eS; rfl) (by subst eS; rfl) (by subst eS; rfl) (by subst eS; rfl) (by subst eS; rfl) (by subst eS; rfl) (by subst eS; rfl) (by subst eS; rfl) (by subst eS; rfl) (by subst eS; rfl) (by subst eS; rfl) (by subst eS; rfl) (by subst eS; rfl) (by subst eS; rfl) (by subst eS; rfl) (by subst eS; rfl)]; exact hD
  refine W.widen (k := cells + 1) (n := slots + 6) (by omega) (by omega) ?_
  exact kk S9 H locs ls (LI.of (LI.mono hI (by omega)) (by subst eS; rfl) (by subst eS; rfl) (by subst eS; rfl) (by subst eS; rfl) (by subst eS; rfl) (by subst eS; rfl) (by subst eS; rfl) (by subst eS; rfl) (by subst eS; rfl) (by subst eS; rfl) (by subst eS; rfl) (by subst eS; rfl) (by subst eS; rfl) (by subst eS; rfl) (by subst eS; rfl)) hP hD hS (lv_sub hl [0, 1, 2, 3, 4, 5] rfl)

set_option maxRecDepth 100000 in
set_option maxHeartbeats 4000000 in
theorem case_9 {p : Program} {l : Launch} {e : Env} {s : State} {m : MethodId} {below : List Frame} {meth : Method} {cq : Code} {G : va_G} {cy : Nat → ClassId} {kS vS : Nat → Nat} {A : Nat → Prop} {a : LA} {b L q : Nat} {xs : Nat → Int32} {Q : State → Prop} {n0 cells slots : Nat} (hC : LC l p s m meth cq G cy kS vS A b L xs) (hq : 4 * q + 4 ≤ L) (hn0 : n0 < 1000000) (hc1 : cells + 1 ≤ room_1.cells) (hs1 : slots + 6 ≤ room_1.slots) (kk : LGo p l e s m below meth cq G cy A a b q Q (n0 + 300) (cells + 1) (slots + 6) 2890) : LGo p l e s m below meth cq G cy A a b q Q n0 cells slots 836 := by
  intro s9 H locs ls hI hP hD hS hl
  obtain ⟨hx, hb, hml, hown, hts⟩ := id hC.S9
  have hL9 := hC.hL
  have hc0 : cells + 0 ≤ room_1.cells := Nat.le_of_succ_le hc1
  have hcn : cells ≤ room_1.cells := Nat.le_of_succ_le hc1
  have hs0 : slots + 0 ≤ room_1.slots := Nat.le_trans (Nat.le_add_right slots 6) hs1
  have hsn : slots ≤ room_1.slots := Nat.le_trans (Nat.le_add_right slots 6) hs1
  have ho := hI.1.1
  have hN0 := ho.1
  have hM0 := ho.2.1
  have hE0 := ho.2.2.1
  have hnx := hI.2.2.2.2.1
  have hct := hI.2.2.2.2.2.1
  by_cases hF : inI (xs (4 * q + 1)) (nI (nB s9.σ)) = true
  · obtain ⟨j, hj, e1⟩ := ix_of (by omega) hF
    obtain ⟨S9, eS⟩ : ∃ z : LwS, z = (LwS.mk s9.σ s9.υ s9.ς s9.hs s9.ep s9.fc s9.ml 0 s9.nx s9.ct s9.nb s9.n s9.LN s9.CM s9.ρ s9.x s9.x0 s9.f s9.gk s9.g1 s9.g2 s9.g3 s9.fb s9.fB s9.fA s9.fV s9.fP s9.fO s9.g (fun _ => (vB s9.σ j).toInt64) s9.fd) := ⟨_, rfl⟩
    refine lv_aload_n hx hb dL_law_836 rfl (lv_at hl 4 rfl) ?_
    refine lv_aload_n hx hb dL_law_837 rfl (lv_at hl 5 rfl) ?_
    refine lv_iload hx hb dL_law_838 (lv_at hl 0 rfl) ?_
    refine lv_iconst (v := 1) hx hb dL_law_840 (by decide) ?_
    refine lv_iadd hx hb dL_law_841 ?_
    refine m_sld (v := nI j) hx hb hC.hX hC.hbl hC.hbA hS (k := 4 * q + 1) (m_add rfl rfl) (by omega) hC.hL e1 dL_law_842 ?_
    refine lv_aload_n hx hb dL_law_843 rfl (lv_at hl 2 rfl) ?_
    refine lw_w (Wc := (LCh cy a s9 s9)) (Wn := (LCh cy a S9 s9)) hC (w_volume_ok l G cy kS vS a.aX a.na a.tr a.sn s9.hs a.hi a.sc s9.ep s9.fc a.ob s9.σ j a.oA s9.fo hI.1.1 hj) (vx_cwSW 3 hC.S9.2.2.2.2 gL_law_L_volume rfl rfl rfl (by decide +kernel) ⟨Nat.le_of_ble_eq_true rfl, Nat.le_of_ble_eq_true rfl⟩) [0, 1, 24] rfl (by decide) (SameL.cons SameA.rf (SameL.cons SameA.rf (SameL.cons SameA.one SameL.nil))) (by subst eS; rfl) hP hD hS rfl hl.1 rfl (Nat.le_of_ble_eq_true rfl) ⟨hc0, hs0⟩ dL_law_844 (fun H locs hP hD hS => ?_)
    refine lv_istore (lv' := [(6, .int 0), (5, .int (nI (4 * q))), (4, .ref a.oD), (3, .ref a.oA), (2, .ref a.am), (1, .ref a.aX), (0, .ref b)]) hx hb dL_law_847 hl (by decide) rfl (fun ls hl => ?_)
    refine lv_aload_n hx hb dL_law_849 rfl (lv_at hl 4 rfl) ?_
    refine lv_aload_n hx hb dL_law_850 rfl (lv_at hl 6 rfl) ?_
    refine lv_iload hx hb dL_law_851 (lv_at hl 1 rfl) ?_
    refine lv_iconst (v := 1) hx hb dL_law_853 (by decide) ?_
    refine lv_iadd hx hb dL_law_854 ?_
    refine m_sld (v := nI j) hx hb hC.hX hC.hbl hC.hbA hS (k := 4 * q + 1) (m_add rfl rfl) (by omega) hC.hL e1 dL_law_855 ?_
    refine lw_m (s1 := S9) (t1 := s9) (Wn := (LCh cy a S9 S9)) hC (c_X8_volume_ok l G cy a.am a.aS a.aBf a.aAs a.aSv a.aPa a.aOu a.aTx a.aCo s9.ct s9.nb s9.LN ((s9.x0).1) s9.CM s9.hs s9.th (bI (s9.x0).2) s9.ep s9.fc s9.σ j hI.1.1 hj) (cwV 1 hC.S9.2.2.2.2 gL_law_X8_volume rfl rfl rfl (by decide +kernel) ⟨Nat.le_of_ble_eq_true rfl, Nat.le_of_ble_eq_true rfl⟩) [15, 16] rfl (by decide) (SameR.cons (SameR.cons SameR.nil)) (by subst eS; rfl) hP hD hS rfl hl.1 rfl (Nat.le_of_ble_eq_true rfl) ⟨hcn, hsn⟩ dL_law_856 (fun H locs hP hD hS => ?_)
    refine lv_istore (lv' := [(7, .int (vB s9.σ j)), (6, .int 0), (5, .int (nI (4 * q))), (4, .ref a.oD), (3, .ref a.oA), (2, .ref a.am), (1, .ref a.aX), (0, .ref b)]) hx hb dL_law_859 hl (by decide) rfl (fun ls hl => ?_)
    refine lv_aload_n hx hb dL_law_861 rfl (lv_at hl 5 rfl) ?_
    refine lw_thrown (s1 := S9) (t1 := S9) (k := 0) hC hP (by subst eS; rfl) hl.1 (Nat.le_of_ble_eq_true rfl) ⟨hcn, hsn⟩ dL_law_862 ?_
    refine lv_iload hx hb dL_law_865 (lv_at hl 1 rfl) ?_
    refine lv_icmp_eq (tgt := 872) hx hb dL_law_867 (by decide) (fun c_867 => ?_) (fun c_867 => ?_)
    rotate_left
    · exact absurd c_867 (by decide)
    refine lv_iload hx hb dL_law_872 (lv_at hl 1 rfl) ?_
    refine lv_if_ne (tgt := 889) hx hb dL_law_874 (by decide) (fun c_874 => ?_) (fun c_874 => ?_)
    · exact absurd c_874 (by decide)
    refine lv_aload_n hx hb dL_law_877 rfl (lv_at hl 4 rfl) ?_
    refine lv_iconst (v := 0) hx hb dL_law_878 (by decide) ?_
    refine lw_ldL (s1 := S9) (t1 := S9) (x := (vB s9.σ j).toInt64) hC hP (by subst eS; rfl) dL_law_879 ?_
    refine lv_iload hx hb dL_law_880 (lv_at hl 0 rfl) ?_
    refine lv_i2l hx hb dL_law_882 rfl ?_
    refine m_lcmp0 hx hb rfl dL_law_883 ?_
    refine lv_if_eq (tgt := 889) hx hb dL_law_884 (by decide) (fun c_884 => ?_) (fun c_884 => ?_)
    rotate_left
    · exact absurd c_884 (by decide)
    refine lv_goto (tgt := 2890) hx hb dL_law_889 (by decide) ?_
    refine W.widen (k := cells + 1) (n := slots + 6) (by omega) (by omega) ?_
    exact kk S9 H locs ls (LI.of (LI.mono hI (by omega)) (by subst eS; rfl) (by subst eS; rfl) (by subst eS; rfl) (by subst eS; rfl) (by subst eS; rfl) (by subst eS; rfl) (by subst eS; rfl) (by subst eS; rfl) (by subst eS; rfl) (by subst eS; rfl) (by subst eS; rfl) (by subst eS; rfl) (by subst eS; rfl) (by subst eS; rfl) (by subst eS; rfl)) hP hD hS (lv_sub hl [2, 3, 4, 5, 6, 7] rfl)
  · obtain ⟨S9, eS⟩ : ∃ z : LwS, z = (LwS.mk s9.σ s9.υ s9.ς s9.hs s9.ep s9.fc s9.ml 1 s9.nx s9.ct s9.nb s9.n s9.LN s9.CM s9.ρ s9.x s9.x0 s9.f s9.gk s9.g1 s9.g2 s9.g3 s9.fb s9.fB s9.fA s9.fV s9.fP s9.fO s9.g s9.fo s9.fd) := ⟨_, rfl⟩
    refine lv_aload_n hx hb dL_law_836 rfl (lv_at hl 4 rfl) ?_
    refine lv_aload_n hx hb dL_law_837 rfl (lv_at hl 5 rfl) ?_
    refine lv_iload hx hb dL_law_838 (lv_at hl 0 rfl) ?_
    refine lv_iconst (v := 1) hx hb dL_law_840 (by decide) ?_
    refine lv_iadd hx hb dL_law_841 ?_
    refine m_sld (v := xs (4 * q + 1)) hx hb hC.hX hC.hbl hC.hbA hS (k := 4 * q + 1) (m_add rfl rfl) (by omega) hC.hL rfl dL_law_842 ?_
    refine lv_aload_n hx hb dL_law_843 rfl (lv_at hl 2 rfl) ?_
    refine lw_w (Wc := (LCh cy a s9 s9)) (Wn := (LCh cy a S9 s9)) hC (w_volume_1 l G cy kS vS a.aX a.na a.tr a.sn s9.hs a.hi a.sc s9.ep s9.fc a.ob s9.σ (xs (4 * q + 1)) a.oA s9.fo hC.hl9 hI.1.1 hF) (vx_cwSW 3 hC.S9.2.2.2.2 gL_law_L_volume rfl rfl rfl (by decide +kernel) ⟨Nat.le_of_ble_eq_true rfl, Nat.le_of_ble_eq_true rfl⟩) [0, 1, 24] rfl (by decide) (SameL.cons SameA.rf (SameL.cons SameA.rf (SameL.cons SameA.rf SameL.nil))) (by subst eS; rfl) hP hD hS rfl hl.1 rfl (Nat.le_of_ble_eq_true rfl) ⟨hc1, hs1⟩ dL_law_844 (fun H locs hP hD hS => ?_)
    refine lv_istore (lv' := [(6, .int 1), (5, .int (nI (4 * q))), (4, .ref a.oD), (3, .ref a.oA), (2, .ref a.am), (1, .ref a.aX), (0, .ref b)]) hx hb dL_law_847 hl (by decide) rfl (fun ls hl => ?_)
    refine lv_aload_n hx hb dL_law_849 rfl (lv_at hl 4 rfl) ?_
    refine lv_aload_n hx hb dL_law_850 rfl (lv_at hl 6 rfl) ?_
    refine lv_iload hx hb dL_law_851 (lv_at hl 1 rfl) ?_
    refine lv_iconst (v := 1) hx hb dL_law_853 (by decide) ?_
    refine lv_iadd hx hb dL_law_854 ?_
    refine m_sld (v := xs (4 * q + 1)) hx hb hC.hX hC.hbl hC.hbA hS (k := 4 * q + 1) (m_add rfl rfl) (by omega) hC.hL rfl dL_law_855 ?_
    refine lw_m (s1 := S9) (t1 := s9) (Wn := (LCh cy a S9 S9)) hC (c_X8_volume_no l G cy a.am a.aS a.aBf a.aAs a.aSv a.aPa a.aOu a.aTx a.aCo s9.ct s9.nb s9.LN ((s9.x0).1) s9.CM s9.hs s9.th (bI (s9.x0).2) s9.ep s9.fc s9.σ (xs (4 * q + 1)) hI.1.1 hF) (cwV 1 hC.S9.2.2.2.2 gL_law_X8_volume rfl rfl rfl (by decide +kernel) ⟨Nat.le_of_ble_eq_true rfl, Nat.le_of_ble_eq_true rfl⟩) [15, 16] rfl (by decide) (SameR.cons (SameR.cons SameR.nil)) (by subst eS; rfl) hP hD hS rfl hl.1 rfl (Nat.le_of_ble_eq_true rfl) ⟨hc1, hs1⟩ dL_law_856 (fun H locs hP hD hS => ?_)
    refine lv_istore (lv' := [(7, .int 0), (6, .int 1), (5, .int (nI (4 * q))), (4, .ref a.oD), (3, .ref a.oA), (2, .ref a.am), (1, .ref a.aX), (0, .ref b)]) hx hb dL_law_859 hl (by decide) rfl (fun ls hl => ?_)
    refine lv_aload_n hx hb dL_law_861 rfl (lv_at hl 5 rfl) ?_
    refine lw_thrown (s1 := S9) (t1 := S9) (k := 1) hC hP (by subst eS; rfl) hl.1 (Nat.le_of_ble_eq_true rfl) ⟨hc1, hs1⟩ dL_law_862 ?_
    refine lv_iload hx hb dL_law_865 (lv_at hl 1 rfl) ?_
    refine lv_icmp_eq (tgt := 872) hx hb dL_law_867 (by decide) (fun c_867 => ?_) (fun c_867 => ?_)
    rotate_left
    · exact absurd c_867 (by decide)
    refine lv_iload hx hb dL_law_872 (lv_at hl 1 rfl) ?_
    refine lv_if_ne (tgt := 889) hx hb dL_law_874 (by decide) (fun c_874 => ?_) (fun c_874 => ?_)
    rotate_left
    · exact absurd c_874 (by decide)
    refine lv_goto (tgt := 2890) hx hb dL_law_889 (by decide) ?_
    exact kk S9 H locs ls (LI.of (LI.mono hI (by omega)) (by subst eS; rfl) (by subst eS; rfl) (by subst eS; rfl) (by subst eS; rfl) (by subst eS; rfl) (by subst eS; rfl) (by subst eS; rfl) (by subst eS; rfl) (by subst eS; rfl) (by subst eS; rfl) (by subst eS; rfl) (by subst eS; rfl) (by subst eS; rfl) (by subst eS; rfl) (by subst eS; rfl)) hP hD hS (lv_sub hl [2, 3, 4, 5, 6, 7] rfl)

set_option maxRecDepth 100000 in
set_option maxHeartbeats 4000000 in
theorem case_10 {p : Program} {l : Launch} {e : Env} {s : State} {m : MethodId} {below : List Frame} {meth : Method} {cq : Code} {G : va_G} {cy : Nat → ClassId} {kS vS : Nat → Nat} {A : Nat → Prop} {a : LA} {b L q : Nat} {xs : Nat → Int32} {Q : State → Prop} {n0 cells slots : Nat} (hC : LC l p s m meth cq G cy kS vS A b L xs) (hq : 4 * q + 4 ≤ L) (hn0 : n0 < 1000000) (hc1 : cells + 1 ≤ room_1.cells) (hs1 : slots + 6 ≤ room_1.slots) (kk : LGo p l e s m below meth cq G cy A a b q Q (n0 + 300) (cells + 1) (slots + 6) 2890) : LGo p l e s m below meth cq G cy A a b q Q n0 cells slots 892 := by
  intro s9 H locs ls hI hP hD hS hl
  obtain ⟨hx, hb, hml, hown, hts⟩ := id hC.S9
  have hL9 := hC.hL
  have hc0 : cells + 0 ≤ room_1.cells := Nat.le_of_succ_le hc1
  have hcn : cells ≤ room_1.cells := Nat.le_of_succ_le hc1
  have hs0 : slots + 0 ≤ room_1.slots := Nat.le_trans (Nat.le_add_right slots 6) hs1
  have hsn : slots ≤ room_1.slots := Nat.le_trans (Nat.le_add_right slots 6) hs1
  have ho := hI.1.1
  have hN0 := ho.1
  have hM0 := ho.2.1
  have hE0 := ho.2.2.1
  have hnx := hI.2.2.2.2.1
  have hct := hI.2.2.2.2.2.1
  by_cases hF : inI (xs (4 * q + 1)) (nI (nB s9.σ)) = true
  · obtain ⟨j, hj, e1⟩ := ix_of (by omega) hF
    obtain ⟨S9, eS⟩ : ∃ z : LwS, z = (LwS.mk s9.σ s9.υ s9.ς s9.hs s9.ep s9.fc s9.ml 0 s9.nx s9.ct s9.nb s9.n s9.LN s9.CM s9.ρ s9.x s9.x0 s9.f s9.gk s9.g1 s9.g2 s9.g3 s9.fb s9.fB s9.fA s9.fV s9.fP s9.fO s9.g (fun _ => (hB s9.σ j).toInt64) s9.fd) := ⟨_, rfl⟩
    refine lv_aload_n hx hb dL_law_892 rfl (lv_at hl 4 rfl) ?_
    refine lv_aload_n hx hb dL_law_893 rfl (lv_at hl 5 rfl) ?_
    refine lv_iload hx hb dL_law_894 (lv_at hl 0 rfl) ?_
    refine lv_iconst (v := 1) hx hb dL_law_896 (by decide) ?_
    refine lv_iadd hx hb dL_law_897 ?_
    refine m_sld (v := nI j) hx hb hC.hX hC.hbl hC.hbA hS (k := 4 * q + 1) (m_add rfl rfl) (by omega) hC.hL e1 dL_law_898 ?_
    refine lv_aload_n hx hb dL_law_899 rfl (lv_at hl 2 rfl) ?_
    refine lw_w (Wc := (LCh cy a s9 s9)) (Wn := (LCh cy a S9 s9)) hC (w_heat_ok l G cy kS vS a.aX a.na a.tr a.sn s9.hs a.hi a.sc s9.ep s9.fc a.ob s9.σ j a.oA s9.fo hI.1.1 hj) (vx_cwSW 3 hC.S9.2.2.2.2 gL_law_L_heat rfl rfl rfl (by decide +kernel) ⟨Nat.le_of_ble_eq_true rfl, Nat.le_of_ble_eq_true rfl⟩) [0, 1, 24] rfl (by decide) (SameL.cons SameA.rf (SameL.cons SameA.rf (SameL.cons SameA.one SameL.nil))) (by subst eS; rfl) hP hD hS rfl hl.1 rfl (Nat.le_of_ble_eq_true rfl) ⟨hc0, hs0⟩ dL_law_900 (fun H locs hP hD hS => ?_)
    refine lv_istore (lv' := [(6, .int 0), (5, .int (nI (4 * q))), (4, .ref a.oD), (3, .ref a.oA), (2, .ref a.am), (1, .ref a.aX), (0, .ref b)]) hx hb dL_law_903 hl (by decide) rfl (fun ls hl => ?_)
    refine lv_aload_n hx hb dL_law_905 rfl (lv_at hl 4 rfl) ?_
    refine lv_aload_n hx hb dL_law_906 rfl (lv_at hl 6 rfl) ?_
    refine lv_iload hx hb dL_law_907 (lv_at hl 1 rfl) ?_
    refine lv_iconst (v := 1) hx hb dL_law_909 (by decide) ?_
    refine lv_iadd hx hb dL_law_910 ?_
    refine m_sld (v := nI j) hx hb hC.hX hC.hbl hC.hbA hS (k := 4 * q + 1) (m_add rfl rfl) (by omega) hC.hL e1 dL_law_911 ?_
    refine lw_m (s1 := S9) (t1 := s9) (Wn := (LCh cy a S9 S9)) hC (c_X8_heat_ok l G cy a.am a.aS a.aBf a.aAs a.aSv a.aPa a.aOu a.aTx a.aCo s9.ct s9.nb s9.LN ((s9.x0).1) s9.CM s9.hs s9.th (bI (s9.x0).2) s9.ep s9.fc s9.σ j hI.1.1 hj) (cwV 1 hC.S9.2.2.2.2 gL_law_X8_heat rfl rfl rfl (by decide +kernel) ⟨Nat.le_of_ble_eq_true rfl, Nat.le_of_ble_eq_true rfl⟩) [15, 16] rfl (by decide) (SameR.cons (SameR.cons SameR.nil)) (by subst eS; rfl) hP hD hS rfl hl.1 rfl (Nat.le_of_ble_eq_true rfl) ⟨hcn, hsn⟩ dL_law_912 (fun H locs hP hD hS => ?_)
    refine lv_istore (lv' := [(7, .int (hB s9.σ j)), (6, .int 0), (5, .int (nI (4 * q))), (4, .ref a.oD), (3, .ref a.oA), (2, .ref a.am), (1, .ref a.aX), (0, .ref b)]) hx hb dL_law_915 hl (by decide) rfl (fun ls hl => ?_)
    refine lv_aload_n hx hb dL_law_917 rfl (lv_at hl 5 rfl) ?_
    refine lw_thrown (s1 := S9) (t1 := S9) (k := 0) hC hP (by subst eS; rfl) hl.1 (Nat.le_of_ble_eq_true rfl) ⟨hcn, hsn⟩ dL_law_918 ?_
    refine lv_iload hx hb dL_law_921 (lv_at hl 1 rfl) ?_
    refine lv_icmp_eq (tgt := 928) hx hb dL_law_923 (by decide) (fun c_923 => ?_) (fun c_923 => ?_)
    rotate_left
    · exact absurd c_923 (by decide)
    refine lv_iload hx hb dL_law_928 (lv_at hl 1 rfl) ?_
    refine lv_if_ne (tgt := 945) hx hb dL_law_930 (by decide) (fun c_930 => ?_) (fun c_930 => ?_)
    · exact absurd c_930 (by decide)
    refine lv_aload_n hx hb dL_law_933 rfl (lv_at hl 4 rfl) ?_
    refine lv_iconst (v := 0) hx hb dL_law_934 (by decide) ?_
    refine lw_ldL (s1 := S9) (t1 := S9) (x := (hB s9.σ j).toInt64) hC hP (by subst eS; rfl) dL_law_935 ?_
    refine lv_iload hx hb dL_law_936 (lv_at hl 0 rfl) ?_
    refine lv_i2l hx hb dL_law_938 rfl ?_
    refine m_lcmp0 hx hb rfl dL_law_939 ?_
    refine lv_if_eq (tgt := 945) hx hb dL_law_940 (by decide) (fun c_940 => ?_) (fun c_940 => ?_)
    rotate_left
    · exact absurd c_940 (by decide)
    refine lv_goto (tgt := 2890) hx hb dL_law_945 (by decide) ?_
    refine W.widen (k := cells + 1) (n := slots + 6) (by omega) (by omega) ?_
    exact kk S9 H locs ls (LI.of (LI.mono hI (by omega)) (by subst eS; rfl) (by subst eS; rfl) (by subst eS; rfl) (by subst eS; rfl) (by subst eS; rfl) (by subst eS; rfl) (by subst eS; rfl) (by subst eS; rfl) (by subst eS; rfl) (by subst eS; rfl) (by subst eS; rfl) (by subst eS; rfl) (by subst eS; rfl) (by subst eS; rfl) (by subst eS; rfl)) hP hD hS (lv_sub hl [2, 3, 4, 5, 6, 7] rfl)
  · obtain ⟨S9, eS⟩ : ∃ z : LwS, z = (LwS.mk s9.σ s9.υ s9.ς s9.hs s9.ep s9.fc s9.ml 1 s9.nx s9.ct s9.nb s9.n s9.LN s9.CM s9.ρ s9.x s9.x0 s9.f s9.gk s9.g1 s9.g2 s9.g3 s9.fb s9.fB s9.fA s9.fV s9.fP s9.fO s9.g s9.fo s9.fd) := ⟨_, rfl⟩
    refine lv_aload_n hx hb dL_law_892 rfl (lv_at hl 4 rfl) ?_
    refine lv_aload_n hx hb dL_law_893 rfl (lv_at hl 5 rfl) ?_
    refine lv_iload hx hb dL_law_894 (lv_at hl 0 rfl) ?_
    refine lv_iconst (v := 1) hx hb dL_law_896 (by decide) ?_
    refine lv_iadd hx hb dL_law_897 ?_
    refine m_sld (v := xs (4 * q + 1)) hx hb hC.hX hC.hbl hC.hbA hS (k := 4 * q + 1) (m_add rfl rfl) (by omega) hC.hL rfl dL_law_898 ?_
    refine lv_aload_n hx hb dL_law_899 rfl (lv_at hl 2 rfl) ?_
    refine lw_w (Wc := (LCh cy a s9 s9)) (Wn := (LCh cy a S9 s9)) hC (w_heat_1 l G cy kS vS a.aX a.na a.tr a.sn s9.hs a.hi a.sc s9.ep s9.fc a.ob s9.σ (xs (4 * q + 1)) a.oA s9.fo hC.hl9 hI.1.1 hF) (vx_cwSW 3 hC.S9.2.2.2.2 gL_law_L_heat rfl rfl rfl (by decide +kernel) ⟨Nat.le_of_ble_eq_true rfl, Nat.le_of_ble_eq_true rfl⟩) [0, 1, 24] rfl (by decide) (SameL.cons SameA.rf (SameL.cons SameA.rf (SameL.cons SameA.rf SameL.nil))) (by subst eS; rfl) hP hD hS rfl hl.1 rfl (Nat.le_of_ble_eq_true rfl) ⟨hc1, hs1⟩ dL_law_900 (fun H locs hP hD hS => ?_)
    refine lv_istore (lv' := [(6, .int 1), (5, .int (nI (4 * q))), (4, .ref a.oD), (3, .ref a.oA), (2, .ref a.am), (1, .ref a.aX), (0, .ref b)]) hx hb dL_law_903 hl (by decide) rfl (fun ls hl => ?_)
    refine lv_aload_n hx hb dL_law_905 rfl (lv_at hl 4 rfl) ?_
    refine lv_aload_n hx hb dL_law_906 rfl (lv_at hl 6 rfl) ?_
    refine lv_iload hx hb dL_law_907 (lv_at hl 1 rfl) ?_
    refine lv_iconst (v := 1) hx hb dL_law_909 (by decide) ?_
    refine lv_iadd hx hb dL_law_910 ?_
    refine m_sld (v := xs (4 * q + 1)) hx hb hC.hX hC.hbl hC.hbA hS (k := 4 * q + 1) (m_add rfl rfl) (by omega) hC.hL rfl dL_law_911 ?_
    refine lw_m (s1 := S9) (t1 := s9) (Wn := (LCh cy a S9 S9)) hC (c_X8_heat_no l G cy a.am a.aS a.aBf a.aAs a.aSv a.aPa a.aOu a.aTx a.aCo s9.ct s9.nb s9.LN ((s9.x0).1) s9.CM s9.hs s9.th (bI (s9.x0).2) s9.ep s9.fc s9.σ (xs (4 * q + 1)) hI.1.1 hF) (cwV 1 hC.S9.2.2.2.2 gL_law_X8_heat rfl rfl rfl (by decide +kernel) ⟨Nat.le_of_ble_eq_true rfl, Nat.le_of_ble_eq_true rfl⟩) [15, 16] rfl (by decide) (SameR.cons (SameR.cons SameR.nil)) (by subst eS; rfl) hP hD hS rfl hl.1 rfl (Nat.le_of_ble_eq_true rfl) ⟨hc1, hs1⟩ dL_law_912 (fun H locs hP hD hS => ?_)
    refine lv_istore (lv' := [(7, .int 0), (6, .int 1), (5, .int (nI (4 * q))), (4, .ref a.oD), (3, .ref a.oA), (2, .ref a.am), (1, .ref a.aX), (0, .ref b)]) hx hb dL_law_915 hl (by decide) rfl (fun ls hl => ?_)
    refine lv_aload_n hx hb dL_law_917 rfl (lv_at hl 5 rfl) ?_
    refine lw_thrown (s1 := S9) (t1 := S9) (k := 1) hC hP (by subst eS; rfl) hl.1 (Nat.le_of_ble_eq_true rfl) ⟨hc1, hs1⟩ dL_law_918 ?_
    refine lv_iload hx hb dL_law_921 (lv_at hl 1 rfl) ?_
    refine lv_icmp_eq (tgt := 928) hx hb dL_law_923 (by decide) (fun c_923 => ?_) (fun c_923 => ?_)
    rotate_left
    · exact absurd c_923 (by decide)
    refine lv_iload hx hb dL_law_928 (lv_at hl 1 rfl) ?_
    refine lv_if_ne (tgt := 945) hx hb dL_law_930 (by decide) (fun c_930 => ?_) (fun c_930 => ?_)
    rotate_left
    · exact absurd c_930 (by decide)
    refine lv_goto (tgt := 2890) hx hb dL_law_945 (by decide) ?_
    exact kk S9 H locs ls (LI.of (LI.mono hI (by omega)) (by subst eS; rfl) (by subst eS; rfl) (by subst eS; rfl) (by subst eS; rfl) (by subst eS; rfl) (by subst eS; rfl) (by subst eS; rfl) (by subst eS; rfl) (by subst eS; rfl) (by subst eS; rfl) (by subst eS; rfl) (by subst eS; rfl) (by subst eS; rfl) (by subst eS; rfl) (by subst eS; rfl)) hP hD hS (lv_sub hl [2, 3, 4, 5, 6, 7] rfl)

set_option maxRecDepth 100000 in
set_option maxHeartbeats 4000000 in
theorem case_11 {p : Program} {l : Launch} {e : Env} {s : State} {m : MethodId} {below : List Frame} {meth : Method} {cq : Code} {G : va_G} {cy : Nat → ClassId} {kS vS : Nat → Nat} {A : Nat → Prop} {a : LA} {b L q : Nat} {xs : Nat → Int32} {Q : State → Prop} {n0 cells slots : Nat} (hC : LC l p s m meth cq G cy kS vS A b L xs) (hq : 4 * q + 4 ≤ L) (hn0 : n0 < 1000000) (hc1 : cells + 1 ≤ room_1.cells) (hs1 : slots + 6 ≤ room_1.slots) (kk : LGo p l e s m below meth cq G cy A a b q Q (n0 + 300) (cells + 1) (slots + 6) 2890) : LGo p l e s m below meth cq G cy A a b q Q n0 cells slots 948 := by
  intro s9 H locs ls hI hP hD hS hl
  obtain ⟨hx, hb, hml, hown, hts⟩ := id hC.S9
  have hL9 := hC.hL
  have hc0 : cells + 0 ≤ room_1.cells := Nat.le_of_succ_le hc1
  have hcn : cells ≤ room_1.cells := Nat.le_of_succ_le hc1
  have hs0 : slots + 0 ≤ room_1.slots := Nat.le_trans (Nat.le_add_right slots 6) hs1
  have hsn : slots ≤ room_1.slots := Nat.le_trans (Nat.le_add_right slots 6) hs1
  have ho := hI.1.1
  have hN0 := ho.1
  have hM0 := ho.2.1
  have hE0 := ho.2.2.1
  have hnx := hI.2.2.2.2.1
  have hct := hI.2.2.2.2.2.1
  by_cases hF : inI (xs (4 * q + 1)) (nI (nB s9.σ)) = true
  · obtain ⟨j, hj, e1⟩ := ix_of (by omega) hF
    by_cases hwt : wet (vB s9.σ) j = true
    · obtain ⟨S9, eS⟩ : ∃ z : LwS, z = (LwS.mk s9.σ s9.υ s9.ς s9.hs s9.ep s9.fc s9.ml 0 s9.nx s9.ct s9.nb s9.n s9.LN s9.CM s9.ρ s9.x s9.x0 s9.f s9.gk s9.g1 s9.g2 s9.g3 s9.fb s9.fB s9.fA s9.fV s9.fP s9.fO s9.g (fun _ => (rdeg (hB s9.σ j) (vB s9.σ j)).toInt64) s9.fd) := ⟨_, rfl⟩
      refine lv_aload_n hx hb dL_law_948 rfl (lv_at hl 4 rfl) ?_
      refine lv_aload_n hx hb dL_law_949 rfl (lv_at hl 5 rfl) ?_
      refine lv_iload hx hb dL_law_950 (lv_at hl 0 rfl) ?_
      refine lv_iconst (v := 1) hx hb dL_law_952 (by decide) ?_
      refine lv_iadd hx hb dL_law_953 ?_
      refine m_sld (v := nI j) hx hb hC.hX hC.hbl hC.hbA hS (k := 4 * q + 1) (m_add rfl rfl) (by omega) hC.hL e1 dL_law_954 ?_
      refine lv_aload_n hx hb dL_law_955 rfl (lv_at hl 2 rfl) ?_
      refine lw_w (Wc := (LCh cy a s9 s9)) (Wn := (LCh cy a S9 s9)) hC (w_temperature_ok l G cy kS vS a.aX a.na a.tr a.sn s9.hs a.hi a.sc s9.ep s9.fc a.ob s9.σ j a.oA s9.fo hI.1.1 hj hwt) (vx_cwSW 3 hC.S9.2.2.2.2 gL_law_L_temperature rfl rfl rfl (by decide +kernel) ⟨Nat.le_of_ble_eq_true rfl, Nat.le_of_ble_eq_true rfl⟩) [0, 1, 24] rfl (by decide) (SameL.cons SameA.rf (SameL.cons SameA.rf (SameL.cons SameA.one SameL.nil))) (by subst eS; rfl) hP hD hS rfl hl.1 rfl (Nat.le_of_ble_eq_true rfl) ⟨hc0, hs0⟩ dL_law_956 (fun H locs hP hD hS => ?_)
      refine lv_istore (lv' := [(6, .int 0), (5, .int (nI (4 * q))), (4, .ref a.oD), (3, .ref a.oA), (2, .ref a.am), (1, .ref a.aX), (0, .ref b)]) hx hb dL_law_959 hl (by decide) rfl (fun ls hl => ?_)
      refine lv_aload_n hx hb dL_law_961 rfl (lv_at hl 4 rfl) ?_
      refine lv_aload_n hx hb dL_law_962 rfl (lv_at hl 6 rfl) ?_
      refine lv_iload hx hb dL_law_963 (lv_at hl 1 rfl) ?_
      refine lv_iconst (v := 1) hx hb dL_law_965 (by decide) ?_
      refine lv_iadd hx hb dL_law_966 ?_
      refine m_sld (v := nI j) hx hb hC.hX hC.hbl hC.hbA hS (k := 4 * q + 1) (m_add rfl rfl) (by omega) hC.hL e1 dL_law_967 ?_
      refine lw_m (s1 := S9) (t1 := s9) (Wn := (LCh cy a S9 S9)) hC (c_X8_temperature_ok l G cy a.am a.aS a.aBf a.aAs a.aSv a.aPa a.aOu a.aTx a.aCo s9.ct s9.nb s9.LN ((s9.x0).1) s9.CM s9.hs s9.th (bI (s9.x0).2) s9.ep s9.fc s9.σ j hI.1.1 hj hwt) (cwV 1 hC.S9.2.2.2.2 gL_law_X8_temperature rfl rfl rfl (by decide +kernel) ⟨Nat.le_of_ble_eq_true rfl, Nat.le_of_ble_eq_true rfl⟩) [15, 16] rfl (by decide) (SameR.cons (SameR.cons SameR.nil)) (by subst eS; rfl) hP hD hS rfl hl.1 rfl (Nat.le_of_ble_eq_true rfl) ⟨hcn, hsn⟩ dL_law_968 (fun H locs hP hD hS => ?_)
      refine lv_istore (lv' := [(7, .int (rdeg (hB s9.σ j) (vB s9.σ j))), (6, .int 0), (5, .int (nI (4 * q))), (4, .ref a.oD), (3, .ref a.oA), (2, .ref a.am), (1, .ref a.aX), (0, .ref b)]) hx hb dL_law_971 hl (by decide) rfl (fun ls hl => ?_)
      refine lv_aload_n hx hb dL_law_973 rfl (lv_at hl 5 rfl) ?_
      refine lw_thrown (s1 := S9) (t1 := S9) (k := 0) hC hP (by subst eS; rfl) hl.1 (Nat.le_of_ble_eq_true rfl) ⟨hcn, hsn⟩ dL_law_974 ?_
      refine lv_iload hx hb dL_law_977 (lv_at hl 1 rfl) ?_
      refine lv_icmp_eq (tgt := 984) hx hb dL_law_979 (by decide) (fun c_979 => ?_) (fun c_979 => ?_)
      rotate_left
      · exact absurd c_979 (by decide)
      refine lv_iload hx hb dL_law_984 (lv_at hl 1 rfl) ?_
      refine lv_if_ne (tgt := 1001) hx hb dL_law_986 (by decide) (fun c_986 => ?_) (fun c_986 => ?_)
      · exact absurd c_986 (by decide)
      refine lv_aload_n hx hb dL_law_989 rfl (lv_at hl 4 rfl) ?_
      refine lv_iconst (v := 0) hx hb dL_law_990 (by decide) ?_
      refine lw_ldL (s1 := S9) (t1 := S9) (x := (rdeg (hB s9.σ j) (vB s9.σ j)).toInt64) hC hP (by subst eS; rfl) dL_law_991 ?_
      refine lv_iload hx hb dL_law_992 (lv_at hl 0 rfl) ?_
      refine lv_i2l hx hb dL_law_994 rfl ?_
      refine m_lcmp0 hx hb rfl dL_law_995 ?_
      refine lv_if_eq (tgt := 1001) hx hb dL_law_996 (by decide) (fun c_996 => ?_) (fun c_996 => ?_)
      rotate_left
      · exact absurd c_996 (by decide)
      refine lv_goto (tgt := 2890) hx hb dL_law_1001 (by decide) ?_
      refine W.widen (k := cells + 1) (n := slots + 6) (by omega) (by omega) ?_
      exact kk S9 H locs ls (LI.of (LI.mono hI (by omega)) (by subst eS; rfl) (by subst eS; rfl) (by subst eS; rfl) (by subst eS; rfl) (by subst eS; rfl) (by subst eS; rfl) (by subst eS; rfl) (by subst eS; rfl) (by subst eS; rfl) (by subst eS; rfl) (by subst eS; rfl) (by subst eS; rfl) (by subst eS; rfl) (by subst eS; rfl) (by subst eS; rfl)) hP hD hS (lv_sub hl [2, 3, 4, 5, 6, 7] rfl)
    · obtain ⟨S9, eS⟩ : ∃ z : LwS, z = (LwS.mk s9.σ s9.υ s9.ς s9.hs s9.ep s9.fc s9.ml 2 s9.nx s9.ct s9.nb s9.n s9.LN s9.CM s9.ρ s9.x s9.x0 s9.f s9.gk s9.g1 s9.g2 s9.g3 s9.fb s9.fB s9.fA s9.fV s9.fP s9.fO s9.g s9.fo s9.fd) := ⟨_, rfl⟩
      refine lv_aload_n hx hb dL_law_948 rfl (lv_at hl 4 rfl) ?_
      refine lv_aload_n hx hb dL_law_949 rfl (lv_at hl 5 rfl) ?_
      refine lv_iload hx hb dL_law_950 (lv_at hl 0 rfl) ?_
      refine lv_iconst (v := 1) hx hb dL_law_952 (by decide) ?_
      refine lv_iadd hx hb dL_law_953 ?_
      refine m_sld (v := nI j) hx hb hC.hX hC.hbl hC.hbA hS (k := 4 * q + 1) (m_add rfl rfl) (by omega) hC.hL e1 dL_law_954 ?_
      refine lv_aload_n hx hb dL_law_955 rfl (lv_at hl 2 rfl) ?_
      refine lw_w (Wc := (LCh cy a s9 s9)) (Wn := (LCh cy a S9 s9)) hC (w_temperature_2 l G cy kS vS a.aX a.na a.tr a.sn s9.hs a.hi a.sc s9.ep s9.fc a.ob s9.σ j a.oA s9.fo hC.hl9 hI.1.1 hj hwt) (vx_cwSW 3 hC.S9.2.2.2.2 gL_law_L_temperature rfl rfl rfl (by decide +kernel) ⟨Nat.le_of_ble_eq_true rfl, Nat.le_of_ble_eq_true rfl⟩) [0, 1, 24] rfl (by decide) (SameL.cons SameA.rf (SameL.cons SameA.rf (SameL.cons SameA.rf SameL.nil))) (by subst eS; rfl) hP hD hS rfl hl.1 rfl (Nat.le_of_ble_eq_true rfl) ⟨hc1, hs1⟩ dL_law_956 (fun H locs hP hD hS => ?_)
      refine lv_istore (lv' := [(6, .int 2), (5, .int (nI (4 * q))), (4, .ref a.oD), (3, .ref a.oA), (2, .ref a.am), (1, .ref a.aX), (0, .ref b)]) hx hb dL_law_959 hl (by decide) rfl (fun ls hl => ?_)
      refine lv_aload_n hx hb dL_law_961 rfl (lv_at hl 4 rfl) ?_
      refine lv_aload_n hx hb dL_law_962 rfl (lv_at hl 6 rfl) ?_
      refine lv_iload hx hb dL_law_963 (lv_at hl 1 rfl) ?_
      refine lv_iconst (v := 1) hx hb dL_law_965 (by decide) ?_
      refine lv_iadd hx hb dL_law_966 ?_
      refine m_sld (v := nI j) hx hb hC.hX hC.hbl hC.hbA hS (k := 4 * q + 1) (m_add rfl rfl) (by omega) hC.hL e1 dL_law_967 ?_
      refine lw_m (s1 := S9) (t1 := s9) (Wn := (LCh cy a S9 S9)) hC (c_X8_temperature_no2 l G cy a.am a.aS a.aBf a.aAs a.aSv a.aPa a.aOu a.aTx a.aCo s9.ct s9.nb s9.LN ((s9.x0).1) s9.CM s9.hs s9.th (bI (s9.x0).2) s9.ep s9.fc s9.σ j hI.1.1 hj hwt) (cwV 1 hC.S9.2.2.2.2 gL_law_X8_temperature rfl rfl rfl (by decide +kernel) ⟨Nat.le_of_ble_eq_true rfl, Nat.le_of_ble_eq_true rfl⟩) [15, 16] rfl (by decide) (SameR.cons (SameR.cons SameR.nil)) (by subst eS; rfl) hP hD hS rfl hl.1 rfl (Nat.le_of_ble_eq_true rfl) ⟨hc1, hs1⟩ dL_law_968 (fun H locs hP hD hS => ?_)
      refine lv_istore (lv' := [(7, .int 0), (6, .int 2), (5, .int (nI (4 * q))), (4, .ref a.oD), (3, .ref a.oA), (2, .ref a.am), (1, .ref a.aX), (0, .ref b)]) hx hb dL_law_971 hl (by decide) rfl (fun ls hl => ?_)
      refine lv_aload_n hx hb dL_law_973 rfl (lv_at hl 5 rfl) ?_
      refine lw_thrown (s1 := S9) (t1 := S9) (k := 2) hC hP (by subst eS; rfl) hl.1 (Nat.le_of_ble_eq_true rfl) ⟨hc1, hs1⟩ dL_law_974 ?_
      refine lv_iload hx hb dL_law_977 (lv_at hl 1 rfl) ?_
      refine lv_icmp_eq (tgt := 984) hx hb dL_law_979 (by decide) (fun c_979 => ?_) (fun c_979 => ?_)
      rotate_left
      · exact absurd c_979 (by decide)
      refine lv_iload hx hb dL_law_984 (lv_at hl 1 rfl) ?_
      refine lv_if_ne (tgt := 1001) hx hb dL_law_986 (by decide) (fun c_986 => ?_) (fun c_986 => ?_)
      rotate_left
      · exact absurd c_986 (by decide)
      refine lv_goto (tgt := 2890) hx hb dL_law_1001 (by decide) ?_
      exact kk S9 H locs ls (LI.of (LI.mono hI (by omega)) (by subst eS; rfl) (by subst eS; rfl) (by subst eS; rfl) (by subst eS; rfl) (by subst eS; rfl) (by subst eS; rfl) (by subst eS; rfl) (by subst eS; rfl) (by subst eS; rfl) (by subst eS; rfl) (by subst eS; rfl) (by subst eS; rfl) (by subst eS; rfl) (by subst eS; rfl) (by subst eS; rfl)) hP hD hS (lv_sub hl [2, 3, 4, 5, 6, 7] rfl)
  · obtain ⟨S9, eS⟩ : ∃ z : LwS, z = (LwS.mk s9.σ s9.υ s9.ς s9.hs s9.ep s9.fc s9.ml 1 s9.nx s9.ct s9.nb s9.n s9.LN s9.CM s9.ρ s9.x s9.x0 s9.f s9.gk s9.g1 s9.g2 s9.g3 s9.fb s9.fB s9.fA s9.fV s9.fP s9.fO s9.g s9.fo s9.fd) := ⟨_, rfl⟩
    refine lv_aload_n hx hb dL_law_948 rfl (lv_at hl 4 rfl) ?_
    refine lv_aload_n hx hb dL_law_949 rfl (lv_at hl 5 rfl) ?_
    refine lv_iload hx hb dL_law_950 (lv_at hl 0 rfl) ?_
    refine lv_iconst (v := 1) hx hb dL_law_952 (by decide) ?_
    refine lv_iadd hx hb dL_law_953 ?_
    refine m_sld (v := xs (4 * q + 1)) hx hb hC.hX hC.hbl hC.hbA hS (k := 4 * q + 1) (m_add rfl rfl) (by omega) hC.hL rfl dL_law_954 ?_
    refine lv_aload_n hx hb dL_law_955 rfl (lv_at hl 2 rfl) ?_
    refine lw_w (Wc := (LCh cy a s9 s9)) (Wn := (LCh cy a S9 s9)) hC (w_temperature_1 l G cy kS vS a.aX a.na a.tr a.sn s9.hs a.hi a.sc s9.ep s9.fc a.ob s9.σ (xs (4 * q + 1)) a.oA s9.fo hC.hl9 hI.1.1 hF) (vx_cwSW 3 hC.S9.2.2.2.2 gL_law_L_temperature rfl rfl rfl (by decide +kernel) ⟨Nat.le_of_ble_eq_true rfl, Nat.le_of_ble_eq_true rfl⟩) [0, 1, 24] rfl (by decide) (SameL.cons SameA.rf (SameL.cons SameA.rf (SameL.cons SameA.rf SameL.nil))) (by subst eS; rfl) hP hD hS rfl hl.1 rfl (Nat.le_of_ble_eq_true rfl) ⟨hc1, hs1⟩ dL_law_956 (fun H locs hP hD hS => ?_)
    refine lv_istore (lv' := [(6, .int 1), (5, .int (nI (4 * q))), (4, .ref a.oD), (3, .ref a.oA), (2, .ref a.am), (1, .ref a.aX), (0, .ref b)]) hx hb dL_law_959 hl (by decide) rfl (fun ls hl => ?_)
    refine lv_aload_n hx hb dL_law_961 rfl (lv_at hl 4 rfl) ?_
    refine lv_aload_n hx hb dL_law_962 rfl (lv_at hl 6 rfl) ?_
    refine lv_iload hx hb dL_law_963 (lv_at hl 1 rfl) ?_
    refine lv_iconst (v := 1) hx hb dL_law_965 (by decide) ?_
    refine lv_iadd hx hb dL_law_966 ?_
    refine m_sld (v := xs (4 * q + 1)) hx hb hC.hX hC.hbl hC.hbA hS (k := 4 * q + 1) (m_add rfl rfl) (by omega) hC.hL rfl dL_law_967 ?_
    refine lw_m (s1 := S9) (t1 := s9) (Wn := (LCh cy a S9 S9)) hC (c_X8_temperature_no l G cy a.am a.aS a.aBf a.aAs a.aSv a.aPa a.aOu a.aTx a.aCo s9.ct s9.nb s9.LN ((s9.x0).1) s9.CM s9.hs s9.th (bI (s9.x0).2) s9.ep s9.fc s9.σ (xs (4 * q + 1)) hI.1.1 hF) (cwV 1 hC.S9.2.2.2.2 gL_law_X8_temperature rfl rfl rfl (by decide +kernel) ⟨Nat.le_of_ble_eq_true rfl, Nat.le_of_ble_eq_true rfl⟩) [15, 16] rfl (by decide) (SameR.cons (SameR.cons SameR.nil)) (by subst eS; rfl) hP hD hS rfl hl.1 rfl (Nat.le_of_ble_eq_true rfl) ⟨hc1, hs1⟩ dL_law_968 (fun H locs hP hD hS => ?_)
    refine lv_istore (lv' := [(7, .int 0), (6, .int 1), (5, .int (nI (4 * q))), (4, .ref a.oD), (3, .ref a.oA), (2, .ref a.am), (1, .ref a.aX), (0, .ref b)]) hx hb dL_law_971 hl (by decide) rfl (fun ls hl => ?_)
    refine lv_aload_n hx hb dL_law_973 rfl (lv_at hl 5 rfl) ?_
    refine lw_thrown (s1 := S9) (t1 := S9) (k := 1) hC hP (by subst eS; rfl) hl.1 (Nat.le_of_ble_eq_true rfl) ⟨hc1, hs1⟩ dL_law_974 ?_
    refine lv_iload hx hb dL_law_977 (lv_at hl 1 rfl) ?_
    refine lv_icmp_eq (tgt := 984) hx hb dL_law_979 (by decide) (fun c_979 => ?_) (fun c_979 => ?_)
    rotate_left
    · exact absurd c_979 (by decide)
    refine lv_iload hx hb dL_law_984 (lv_at hl 1 rfl) ?_
    refine lv_if_ne (tgt := 1001) hx hb dL_law_986 (by decide) (fun c_986 => ?_) (fun c_986 => ?_)
    rotate_left
    · exact absurd c_986 (by decide)
    refine lv_goto (tgt := 2890) hx hb dL_law_1001 (by decide) ?_
    exact kk S9 H locs ls (LI.of (LI.mono hI (by omega)) (by subst eS; rfl) (by subst eS; rfl) (by subst eS; rfl) (by subst eS; rfl) (by subst eS; rfl) (by subst eS; rfl) (by subst eS; rfl) (by subst eS; rfl) (by subst eS; rfl) (by subst eS; rfl) (by subst eS; rfl) (by subst eS; rfl) (by subst eS; rfl) (by subst eS; rfl) (by subst eS; rfl)) hP hD hS (lv_sub hl [2, 3, 4, 5, 6, 7] rfl)

set_option maxRecDepth 100000 in
set_option maxHeartbeats 4000000 in
theorem case_12 {p : Program} {l : Launch} {e : Env} {s : State} {m : MethodId} {below : List Frame} {meth : Method} {cq : Code} {G : va_G} {cy : Nat → ClassId} {kS vS : Nat → Nat} {A : Nat → Prop} {a : LA} {b L q : Nat} {xs : Nat → Int32} {Q : State → Prop} {n0 cells slots : Nat} (hC : LC l p s m meth cq G cy kS vS A b L xs) (hq : 4 * q + 4 ≤ L) (hn0 : n0 < 1000000) (hc1 : cells + 1 ≤ room_1.cells) (hs1 : slots + 6 ≤ room_1.slots) (kk : LGo p l e s m below meth cq G cy A a b q Q (n0 + 300) (cells + 1) (slots + 6) 2890) : LGo p l e s m below meth cq G cy A a b q Q n0 cells slots 1004 := by
  intro s9 H locs ls hI hP hD hS hl
  obtain ⟨hx, hb, hml, hown, hts⟩ := id hC.S9
  have hL9 := hC.hL
  have hc0 : cells + 0 ≤ room_1.cells := Nat.le_of_succ_le hc1
  have hcn : cells ≤ room_1.cells := Nat.le_of_succ_le hc1
  have hs0 : slots + 0 ≤ room_1.slots := Nat.le_trans (Nat.le_add_right slots 6) hs1
  have hsn : slots ≤ room_1.slots := Nat.le_trans (Nat.le_add_right slots 6) hs1
  have ho := hI.1.1
  have hN0 := ho.1
  have hM0 := ho.2.1
  have hE0 := ho.2.2.1
  have hnx := hI.2.2.2.2.1
  have hct := hI.2.2.2.2.2.1
  by_cases hF : inI (xs (4 * q + 1)) (nI (nB s9.σ)) = true
  · obtain ⟨j, hj, e1⟩ := ix_of (by omega) hF
    by_cases hwt : wet (vB s9.σ) j = true
    · by_cases hd0 : Op.cmpValue (FP.dcmp (FP.ddiv (FP.i2d (hB s9.σ j)) (FP.i2d (vB s9.σ j))) (FP.ddiv (FP.i2d (hB s9.σ j)) (FP.i2d (vB s9.σ j)))) CmpOp.l = 0
      · obtain ⟨S9, eS⟩ : ∃ z : LwS, z = (LwS.mk s9.σ s9.υ s9.ς s9.hs s9.ep s9.fc s9.ml 0 s9.nx s9.ct s9.nb s9.n s9.LN s9.CM s9.ρ s9.x s9.x0 s9.f s9.gk s9.g1 s9.g2 s9.g3 s9.fb s9.fB s9.fA s9.fV s9.fP s9.fO s9.g s9.fo (fun _ => FP.ddiv (FP.i2d (hB s9.σ j)) (FP.i2d (vB s9.σ j)))) := ⟨_, rfl⟩
        refine lv_aload_n hx hb dL_law_1004 rfl (lv_at hl 4 rfl) ?_
        refine lv_aload_n hx hb dL_law_1005 rfl (lv_at hl 5 rfl) ?_
        refine lv_iload hx hb dL_law_1006 (lv_at hl 0 rfl) ?_
        refine lv_iconst (v := 1) hx hb dL_law_1008 (by decide) ?_
        refine lv_iadd hx hb dL_law_1009 ?_
        refine m_sld (v := nI j) hx hb hC.hX hC.hbl hC.hbA hS (k := 4 * q + 1) (m_add rfl rfl) (by omega) hC.hL e1 dL_law_1010 ?_
        refine lv_aload hx hb dL_law_1011 (lv_at hl 1 rfl) ?_
        refine lw_w (Wc := (LCh cy a s9 s9)) (Wn := (LCh cy a S9 s9)) hC (w_exactTemperature_ok l G cy kS vS a.aX a.na a.tr a.sn s9.hs a.hi a.sc s9.ep s9.fc a.ob s9.σ j a.oD s9.fd hI.1.1 hj hwt hI.1.2.1) (vx_cwSW 3 hC.S9.2.2.2.2 gL_law_L_exactTemperature rfl rfl rfl (by decide +kernel) ⟨Nat.le_of_ble_eq_true rfl, Nat.le_of_ble_eq_true rfl⟩) [0, 1, 25] rfl (by decide) (SameL.cons SameA.rf (SameL.cons SameA.rf (SameL.cons SameA.one SameL.nil))) (by subst eS; rfl) hP hD hS rfl hl.1 rfl (Nat.le_of_ble_eq_true rfl) ⟨hc0, hs0⟩ dL_law_1013 (fun H locs hP hD hS => ?_)
        refine lv_istore (lv' := [(6, .int 0), (5, .int (nI (4 * q))), (4, .ref a.oD), (3, .ref a.oA), (2, .ref a.am), (1, .ref a.aX), (0, .ref b)]) hx hb dL_law_1016 hl (by decide) rfl (fun ls hl => ?_)
        refine lv_aload_n hx hb dL_law_1018 rfl (lv_at hl 4 rfl) ?_
        refine lv_aload_n hx hb dL_law_1019 rfl (lv_at hl 6 rfl) ?_
        refine lv_iload hx hb dL_law_1020 (lv_at hl 1 rfl) ?_
        refine lv_iconst (v := 1) hx hb dL_law_1022 (by decide) ?_
        refine lv_iadd hx hb dL_law_1023 ?_
        refine m_sld (v := nI j) hx hb hC.hX hC.hbl hC.hbA hS (k := 4 * q + 1) (m_add rfl rfl) (by omega) hC.hL e1 dL_law_1024 ?_
        refine lw_m (s1 := S9) (t1 := s9) (Wn := (LCh cy a S9 S9)) hC (c_X8_exactTemperature_ok l G cy a.am a.aS a.aBf a.aAs a.aSv a.aPa a.aOu a.aTx a.aCo s9.ct s9.nb s9.LN ((s9.x0).1) s9.CM s9.hs s9.th (bI (s9.x0).2) s9.ep s9.fc s9.σ j hI.1.1 hj hwt hI.1.2.1) (cwV 1 hC.S9.2.2.2.2 gL_law_X8_exactTemperature rfl rfl rfl (by decide +kernel) ⟨Nat.le_of_ble_eq_true rfl, Nat.le_of_ble_eq_true rfl⟩) [15, 16] rfl (by decide) (SameR.cons (SameR.cons SameR.nil)) (by subst eS; rfl) hP hD hS rfl hl.1 rfl (Nat.le_of_ble_eq_true rfl) ⟨hcn, hsn⟩ dL_law_1025 (fun H locs hP hD hS => ?_)
        refine lv_dstore (lv' := [(7, .double (FP.ddiv (FP.i2d (hB s9.σ j)) (FP.i2d (vB s9.σ j)))), (6, .int 0), (5, .int (nI (4 * q))), (4, .ref a.oD), (3, .ref a.oA), (2, .ref a.am), (1, .ref a.aX), (0, .ref b)]) hx hb dL_law_1028 hl (by decide) rfl (fun ls hl => ?_)
        refine lv_aload_n hx hb dL_law_1030 rfl (lv_at hl 5 rfl) ?_
        refine lw_thrown (s1 := S9) (t1 := S9) (k := 0) hC hP (by subst eS; rfl) hl.1 (Nat.le_of_ble_eq_true rfl) ⟨hcn, hsn⟩ dL_law_1031 ?_
        refine lv_iload hx hb dL_law_1034 (lv_at hl 1 rfl) ?_
        refine lv_icmp_eq (tgt := 1041) hx hb dL_law_1036 (by decide) (fun c_1036 => ?_) (fun c_1036 => ?_)
        rotate_left
        · exact absurd c_1036 (by decide)
        refine lv_iload hx hb dL_law_1041 (lv_at hl 1 rfl) ?_
        refine lv_if_ne (tgt := 1078) hx hb dL_law_1043 (by decide) (fun c_1043 => ?_) (fun c_1043 => ?_)
        · exact absurd c_1043 (by decide)
        refine lv_aload hx hb dL_law_1046 (lv_at hl 3 rfl) ?_
        refine lv_iconst (v := 0) hx hb dL_law_1048 (by decide) ?_
        refine lw_ldD (s1 := S9) (t1 := S9) (x := FP.ddiv (FP.i2d (hB s9.σ j)) (FP.i2d (vB s9.σ j))) hC hP (by subst eS; rfl) dL_law_1049 ?_
        refine lv_dload hx hb dL_law_1050 (lv_at hl 0 rfl) ?_
        refine lv_dcmp hx hb dL_law_1052 ?_
        refine lv_if_eq (tgt := 1078) hx hb dL_law_1053 (by decide) (fun c_1053 => ?_) (fun c_1053 => ?_)
        rotate_left
        · exact absurd hd0 c_1053
        refine lv_goto (tgt := 2890) hx hb dL_law_1078 (by decide) ?_
        refine W.widen (k := cells + 1) (n := slots + 6) (by omega) (by omega) ?_
        exact kk S9 H locs ls (LI.of (LI.mono hI (by omega)) (by subst eS; rfl) (by subst eS; rfl) (by subst eS; rfl) (by subst eS; rfl) (by subst eS; rfl) (by subst eS; rfl) (by subst eS; rfl) (by subst eS; rfl) (by subst eS; rfl) (by subst eS; rfl) (by subst eS; rfl) (by subst eS; rfl) (by subst eS; rfl) (by subst eS; rfl) (by subst eS; rfl)) hP hD hS (lv_sub hl [2, 3, 4, 5, 6, 7] rfl)
      · obtain ⟨S9, eS⟩ : ∃ z : LwS, z = (LwS.mk s9.σ s9.υ s9.ς s9.hs s9.ep s9.fc s9.ml 0 s9.nx s9.ct s9.nb s9.n s9.LN s9.CM s9.ρ s9.x s9.x0 s9.f s9.gk s9.g1 s9.g2 s9.g3 s9.fb s9.fB s9.fA s9.fV s9.fP s9.fO s9.g s9.fo (fun _ => FP.ddiv (FP.i2d (hB s9.σ j)) (FP.i2d (vB s9.σ j)))) := ⟨_, rfl⟩
        refine lv_aload_n hx hb dL_law_1004 rfl (lv_at hl 4 rfl) ?_
        refine lv_aload_n hx hb dL_law_1005 rfl (lv_at hl 5 rfl) ?_
        refine lv_iload hx hb dL_law_1006 (lv_at hl 0 rfl) ?_
        refine lv_iconst (v := 1) hx hb dL_law_1008 (by decide) ?_
        refine lv_iadd hx hb dL_law_1009 ?_
        refine m_sld (v := nI j) hx hb hC.hX hC.hbl hC.hbA hS (k := 4 * q + 1) (m_add rfl rfl) (by omega) hC.hL e1 dL_law_1010 ?_
        refine lv_aload hx hb dL_law_1011 (lv_at hl 1 rfl) ?_
        refine lw_w (Wc := (LCh cy a s9 s9)) (Wn := (LCh cy a S9 s9)) hC (w_exactTemperature_ok l G cy kS vS a.aX a.na a.tr a.sn s9.hs a.hi a.sc s9.ep s9.fc a.ob s9.σ j a.oD s9.fd hI.1.1 hj hwt hI.1.2.1) (vx_cwSW 3 hC.S9.2.2.2.2 gL_law_L_exactTemperature rfl rfl rfl (by decide +kernel) ⟨Nat.le_of_ble_eq_true rfl, Nat.le_of_ble_eq_true rfl⟩) [0, 1, 25] rfl (by decide) (SameL.cons SameA.rf (SameL.cons SameA.rf (SameL.cons SameA.one SameL.nil))) (by subst eS; rfl) hP hD hS rfl hl.1 rfl (Nat.le_of_ble_eq_true rfl) ⟨hc0, hs0⟩ dL_law_1013 (fun H locs hP hD hS => ?_)
        refine lv_istore (lv' := [(6, .int 0), (5, .int (nI (4 * q))), (4, .ref a.oD), (3, .ref a.oA), (2, .ref a.am), (1, .ref a.aX), (0, .ref b)]) hx hb dL_law_1016 hl (by decide) rfl (fun ls hl => ?_)
        refine lv_aload_n hx hb dL_law_1018 rfl (lv_at hl 4 rfl) ?_
        refine lv_aload_n hx hb dL_law_1019 rfl (lv_at hl 6 rfl) ?_
        refine lv_iload hx hb dL_law_1020 (lv_at hl 1 rfl) ?_
        refine lv_iconst (v := 1) hx hb dL_law_1022 (by decide) ?_
        refine lv_iadd hx hb dL_law_1023 ?_
        refine m_sld (v := nI j) hx hb hC.hX hC.hbl hC.hbA hS (k := 4 * q + 1) (m_add rfl rfl) (by omega) hC.hL e1 dL_law_1024 ?_
        refine lw_m (s1 := S9) (t1 := s9) (Wn := (LCh cy a S9 S9)) hC (c_X8_exactTemperature_ok l G cy a.am a.aS a.aBf a.aAs a.aSv a.aPa a.aOu a.aTx a.aCo s9.ct s9.nb s9.LN ((s9.x0).1) s9.CM s9.hs s9.th (bI (s9.x0).2) s9.ep s9.fc s9.σ j hI.1.1 hj hwt hI.1.2.1) (cwV 1 hC.S9.2.2.2.2 gL_law_X8_exactTemperature rfl rfl rfl (by decide +kernel) ⟨Nat.le_of_ble_eq_true rfl, Nat.le_of_ble_eq_true rfl⟩) [15, 16] rfl (by decide) (SameR.cons (SameR.cons SameR.nil)) (by subst eS; rfl) hP hD hS rfl hl.1 rfl (Nat.le_of_ble_eq_true rfl) ⟨hcn, hsn⟩ dL_law_1025 (fun H locs hP hD hS => ?_)
        refine lv_dstore (lv' := [(7, .double (FP.ddiv (FP.i2d (hB s9.σ j)) (FP.i2d (vB s9.σ j)))), (6, .int 0), (5, .int (nI (4 * q))), (4, .ref a.oD), (3, .ref a.oA), (2, .ref a.am), (1, .ref a.aX), (0, .ref b)]) hx hb dL_law_1028 hl (by decide) rfl (fun ls hl => ?_)
        refine lv_aload_n hx hb dL_law_1030 rfl (lv_at hl 5 rfl) ?_
        refine lw_thrown (s1 := S9) (t1 := S9) (k := 0) hC hP (by subst eS; rfl) hl.1 (Nat.le_of_ble_eq_true rfl) ⟨hcn, hsn⟩ dL_law_1031 ?_
        refine lv_iload hx hb dL_law_1034 (lv_at hl 1 rfl) ?_
        refine lv_icmp_eq (tgt := 1041) hx hb dL_law_1036 (by decide) (fun c_1036 => ?_) (fun c_1036 => ?_)
        rotate_left
        · exact absurd c_1036 (by decide)
        refine lv_iload hx hb dL_law_1041 (lv_at hl 1 rfl) ?_
        refine lv_if_ne (tgt := 1078) hx hb dL_law_1043 (by decide) (fun c_1043 => ?_) (fun c_1043 => ?_)
        · exact absurd c_1043 (by decide)
        refine lv_aload hx hb dL_law_1046 (lv_at hl 3 rfl) ?_
        refine lv_iconst (v := 0) hx hb dL_law_1048 (by decide) ?_
        refine lw_ldD (s1 := S9) (t1 := S9) (x := FP.ddiv (FP.i2d (hB s9.σ j)) (FP.i2d (vB s9.σ j))) hC hP (by subst eS; rfl) dL_law_1049 ?_
        refine lv_dload hx hb dL_law_1050 (lv_at hl 0 rfl) ?_
        refine lv_dcmp hx hb dL_law_1052 ?_
        refine lv_if_eq (tgt := 1078) hx hb dL_law_1053 (by decide) (fun c_1053 => ?_) (fun c_1053 => ?_)
        · exact absurd c_1053 hd0
        refine lv_aload hx hb dL_law_1056 (lv_at hl 3 rfl) ?_
        refine lv_iconst (v := 0) hx hb dL_law_1058 (by decide) ?_
        refine lw_ldD (s1 := S9) (t1 := S9) (x := FP.ddiv (FP.i2d (hB s9.σ j)) (FP.i2d (vB s9.σ j))) hC hP (by subst eS; rfl) dL_law_1059 ?_
        refine lv_aload hx hb dL_law_1060 (lv_at hl 3 rfl) ?_
        refine lv_iconst (v := 0) hx hb dL_law_1062 (by decide) ?_
        refine lw_ldD (s1 := S9) (t1 := S9) (x := FP.ddiv (FP.i2d (hB s9.σ j)) (FP.i2d (vB s9.σ j))) hC hP (by subst eS; rfl) dL_law_1063 ?_
        refine lv_dcmp hx hb dL_law_1064 ?_
        refine lv_if_eq (tgt := 1076) hx hb dL_law_1065 (by decide) (fun c_1065 => ?_) (fun c_1065 => ?_)
        · exact absurd c_1065 hd0
        refine lv_dload hx hb dL_law_1068 (lv_at hl 0 rfl) ?_
        refine lv_dload hx hb dL_law_1070 (lv_at hl 0 rfl) ?_
        refine lv_dcmp hx hb dL_law_1072 ?_
        refine lv_if_ne (tgt := 1078) hx hb dL_law_1073 (by decide) (fun c_1073 => ?_) (fun c_1073 => ?_)
        rotate_left
        · exact absurd c_1073 hd0
        refine lv_goto (tgt := 2890) hx hb dL_law_1078 (by decide) ?_
        refine W.widen (k := cells + 1) (n := slots + 6) (by omega) (by omega) ?_
        exact kk S9 H locs ls (LI.of (LI.mono hI (by omega)) (by subst eS; rfl) (by subst eS; rfl) (by subst eS; rfl) (by subst eS; rfl) (by subst eS; rfl) (by subst eS; rfl) (by subst eS; rfl) (by subst eS; rfl) (by subst eS; rfl) (by subst eS; rfl) (by subst eS; rfl) (by subst eS; rfl) (by subst eS; rfl) (by subst eS; rfl) (by subst eS; rfl)) hP hD hS (lv_sub hl [2, 3, 4, 5, 6, 7] rfl)
    · obtain ⟨S9, eS⟩ : ∃ z : LwS, z = (LwS.mk s9.σ s9.υ s9.ς s9.hs s9.ep s9.fc s9.ml 2 s9.nx s9.ct s9.nb s9.n s9.LN s9.CM s9.ρ s9.x s9.x0 s9.f s9.gk s9.g1 s9.g2 s9.g3 s9.fb s9.fB s9.fA s9.fV s9.fP s9.fO s9.g s9.fo s9.fd) := ⟨_, rfl⟩
      refine lv_aload_n hx hb dL_law_1004 rfl (lv_at hl 4 rfl) ?_
      refine lv_aload_n hx hb dL_law_1005 rfl (lv_at hl 5 rfl) ?_
      refine lv_iload hx hb dL_law_1006 (lv_at hl 0 rfl) ?_
      refine lv_iconst (v := 1) hx hb dL_law_1008 (by decide) ?_
      refine lv_iadd hx hb dL_law_1009 ?_
      refine m_sld (v := nI j) hx hb hC.hX hC.hbl hC.hbA hS (k := 4 * q + 1) (m_add rfl rfl) (by omega) hC.hL e1 dL_law_1010 ?_
      refine lv_aload hx hb dL_law_1011 (lv_at hl 1 rfl) ?_
      refine lw_w (Wc := (LCh cy a s9 s9)) (Wn := (LCh cy a S9 s9)) hC (w_exactTemperature_2 l G cy kS vS a.aX a.na a.tr a.sn s9.hs a.hi a.sc s9.ep s9.fc a.ob s9.σ j a.oD s9.fd hC.hl9 hI.1.1 hj hwt) (vx_cwSW 3 hC.S9.2.2.2.2 gL_law_L_exactTemperature rfl rfl rfl (by decide +kernel) ⟨Nat.le_of_ble_eq_true rfl, Nat.le_of_ble_eq_true rfl⟩) [0, 1, 25] rfl (by decide) (SameL.cons SameA.rf (SameL.cons SameA.rf (SameL.cons SameA.rf SameL.nil))) (by subst eS; rfl) hP hD hS rfl hl.1 rfl (Nat.le_of_ble_eq_true rfl) ⟨hc1, hs1⟩ dL_law_1013 (fun H locs hP hD hS => ?_)
      refine lv_istore (lv' := [(6, .int 2), (5, .int (nI (4 * q))), (4, .ref a.oD), (3, .ref a.oA), (2, .ref a.am), (1, .ref a.aX), (0, .ref b)]) hx hb dL_law_1016 hl (by decide) rfl (fun ls hl => ?_)
      refine lv_aload_n hx hb dL_law_1018 rfl (lv_at hl 4 rfl) ?_
      refine lv_aload_n hx hb dL_law_1019 rfl (lv_at hl 6 rfl) ?_
      refine lv_iload hx hb dL_law_1020 (lv_at hl 1 rfl) ?_
      refine lv_iconst (v := 1) hx hb dL_law_1022 (by decide) ?_
      refine lv_iadd hx hb dL_law_1023 ?_
      refine m_sld (v := nI j) hx hb hC.hX hC.hbl hC.hbA hS (k := 4 * q + 1) (m_add rfl rfl) (by omega) hC.hL e1 dL_law_1024 ?_
      refine lw_m (s1 := S9) (t1 := s9) (Wn := (LCh cy a S9 S9)) hC (c_X8_exactTemperature_no2 l G cy a.am a.aS a.aBf a.aAs a.aSv a.aPa a.aOu a.aTx a.aCo s9.ct s9.nb s9.LN ((s9.x0).1) s9.CM s9.hs s9.th (bI (s9.x0).2) s9.ep s9.fc s9.σ j hI.1.1 hj hwt) (cwV 1 hC.S9.2.2.2.2 gL_law_X8_exactTemperature rfl rfl rfl (by decide +kernel) ⟨Nat.le_of_ble_eq_true rfl, Nat.le_of_ble_eq_true rfl⟩) [15, 16] rfl (by decide) (SameR.cons (SameR.cons SameR.nil)) (by subst eS; rfl) hP hD hS rfl hl.1 rfl (Nat.le_of_ble_eq_true rfl) ⟨hc1, hs1⟩ dL_law_1025 (fun H locs hP hD hS => ?_)
      refine lv_dstore (lv' := [(7, .double FP.dconst0), (6, .int 2), (5, .int (nI (4 * q))), (4, .ref a.oD), (3, .ref a.oA), (2, .ref a.am), (1, .ref a.aX), (0, .ref b)]) hx hb dL_law_1028 hl (by decide) rfl (fun ls hl => ?_)
      refine lv_aload_n hx hb dL_law_1030 rfl (lv_at hl 5 rfl) ?_
      refine lw_thrown (s1 := S9) (t1 := S9) (k := 2) hC hP (by subst eS; rfl) hl.1 (Nat.le_of_ble_eq_true rfl) ⟨hc1, hs1⟩ dL_law_1031 ?_
      refine lv_iload hx hb dL_law_1034 (lv_at hl 1 rfl) ?_
      refine lv_icmp_eq (tgt := 1041) hx hb dL_law_1036 (by decide) (fun c_1036 => ?_) (fun c_1036 => ?_)
      rotate_left
      · exact absurd c_1036 (by decide)
      refine lv_iload hx hb dL_law_1041 (lv_at hl 1 rfl) ?_
      refine lv_if_ne (tgt := 1078) hx hb dL_law_1043 (by decide) (fun c_1043 => ?_) (fun c_1043 => ?_)
      rotate_left
      · exact absurd c_1043 (by decide)
      refine lv_goto (tgt := 2890) hx hb dL_law_1078 (by decide) ?_
      exact kk S9 H locs ls (LI.of (LI.mono hI (by omega)) (by subst eS; rfl) (by subst eS; rfl) (by subst eS; rfl) (by subst eS; rfl) (by subst eS; rfl) (by subst eS; rfl) (by subst eS; rfl) (by subst eS; rfl) (by subst eS; rfl) (by subst eS; rfl) (by subst eS; rfl) (by subst eS; rfl) (by subst eS; rfl) (by subst eS; rfl) (by subst eS; rfl)) hP hD hS (lv_sub hl [2, 3, 4, 5, 6, 7] rfl)
  · obtain ⟨S9, eS⟩ : ∃ z : LwS, z = (LwS.mk s9.σ s9.υ s9.ς s9.hs s9.ep s9.fc s9.ml 1 s9.nx s9.ct s9.nb s9.n s9.LN s9.CM s9.ρ s9.x s9.x0 s9.f s9.gk s9.g1 s9.g2 s9.g3 s9.fb s9.fB s9.fA s9.fV s9.fP s9.fO s9.g s9.fo s9.fd) := ⟨_, rfl⟩
    refine lv_aload_n hx hb dL_law_1004 rfl (lv_at hl 4 rfl) ?_
    refine lv_aload_n hx hb dL_law_1005 rfl (lv_at hl 5 rfl) ?_
    refine lv_iload hx hb dL_law_1006 (lv_at hl 0 rfl) ?_
    refine lv_iconst (v := 1) hx hb dL_law_1008 (by decide) ?_
    refine lv_iadd hx hb dL_law_1009 ?_
    refine m_sld (v := xs (4 * q + 1)) hx hb hC.hX hC.hbl hC.hbA hS (k := 4 * q + 1) (m_add rfl rfl) (by omega) hC.hL rfl dL_law_1010 ?_
    refine lv_aload hx hb dL_law_1011 (lv_at hl 1 rfl) ?_
    refine lw_w (Wc := (LCh cy a s9 s9)) (Wn := (LCh cy a S9 s9)) hC (w_exactTemperature_1 l G cy kS vS a.aX a.na a.tr a.sn s9.hs a.hi a.sc s9.ep s9.fc a.ob s9.σ (xs (4 * q + 1)) a.oD s9.fd hC.hl9 hI.1.1 hF) (vx_cwSW 3 hC.S9.2.2.2.2 gL_law_L_exactTemperature rfl rfl rfl (by decide +kernel) ⟨Nat.le_of_ble_eq_true rfl, Nat.le_of_ble_eq_true rfl⟩) [0, 1, 25] rfl (by decide) (SameL.cons SameA.rf (SameL.cons SameA.rf (SameL.cons SameA.rf SameL.nil))) (by subst eS; rfl) hP hD hS rfl hl.1 rfl (Nat.le_of_ble_eq_true rfl) ⟨hc1, hs1⟩ dL_law_1013 (fun H locs hP hD hS => ?_)
    refine lv_istore (lv' := [(6, .int 1), (5, .int (nI (4 * q))), (4, .ref a.oD), (3, .ref a.oA), (2, .ref a.am), (1, .ref a.aX), (0, .ref b)]) hx hb dL_law_1016 hl (by decide) rfl (fun ls hl => ?_)
    refine lv_aload_n hx hb dL_law_1018 rfl (lv_at hl 4 rfl) ?_
    refine lv_aload_n hx hb dL_law_1019 rfl (lv_at hl 6 rfl) ?_
    refine lv_iload hx hb dL_law_1020 (lv_at hl 1 rfl) ?_
    refine lv_iconst (v := 1) hx hb dL_law_1022 (by decide) ?_
    refine lv_iadd hx hb dL_law_1023 ?_
    refine m_sld (v := xs (4 * q + 1)) hx hb hC.hX hC.hbl hC.hbA hS (k := 4 * q + 1) (m_add rfl rfl) (by omega) hC.hL rfl dL_law_1024 ?_
    refine lw_m (s1 := S9) (t1 := s9) (Wn := (LCh cy a S9 S9)) hC (c_X8_exactTemperature_no l G cy a.am a.aS a.aBf a.aAs a.aSv a.aPa a.aOu a.aTx a.aCo s9.ct s9.nb s9.LN ((s9.x0).1) s9.CM s9.hs s9.th (bI (s9.x0).2) s9.ep s9.fc s9.σ (xs (4 * q + 1)) hI.1.1 hF) (cwV 1 hC.S9.2.2.2.2 gL_law_X8_exactTemperature rfl rfl rfl (by decide +kernel) ⟨Nat.le_of_ble_eq_true rfl, Nat.le_of_ble_eq_true rfl⟩) [15, 16] rfl (by decide) (SameR.cons (SameR.cons SameR.nil)) (by subst eS; rfl) hP hD hS rfl hl.1 rfl (Nat.le_of_ble_eq_true rfl) ⟨hc1, hs1⟩ dL_law_1025 (fun H locs hP hD hS => ?_)
    refine lv_dstore (lv' := [(7, .double FP.dconst0), (6, .int 1), (5, .int (nI (4 * q))), (4, .ref a.oD), (3, .ref a.oA), (2, .ref a.am), (1, .ref a.aX), (0, .ref b)]) hx hb dL_law_1028 hl (by decide) rfl (fun ls hl => ?_)
    refine lv_aload_n hx hb dL_law_1030 rfl (lv_at hl 5 rfl) ?_
    refine lw_thrown (s1 := S9) (t1 := S9) (k := 1) hC hP (by subst eS; rfl) hl.1 (Nat.le_of_ble_eq_true rfl) ⟨hc1, hs1⟩ dL_law_1031 ?_
    refine lv_iload hx hb dL_law_1034 (lv_at hl 1 rfl) ?_
    refine lv_icmp_eq (tgt := 1041) hx hb dL_law_1036 (by decide) (fun c_1036 => ?_) (fun c_1036 => ?_)
    rotate_left
    · exact absurd c_1036 (by decide)
    refine lv_iload hx hb dL_law_1041 (lv_at hl 1 rfl) ?_
    refine lv_if_ne (tgt := 1078) hx hb dL_law_1043 (by decide) (fun c_1043 => ?_) (fun c_1043 => ?_)
    rotate_left
    · exact absurd c_1043 (by decide)
    refine lv_goto (tgt := 2890) hx hb dL_law_1078 (by decide) ?_
    exact kk S9 H locs ls (LI.of (LI.mono hI (by omega)) (by subst eS; rfl) (by subst eS; rfl) (by subst eS; rfl) (by subst eS; rfl) (by subst eS; rfl) (by subst eS; rfl) (by subst eS; rfl) (by subst eS; rfl) (by subst eS; rfl) (by subst eS; rfl) (by subst eS; rfl) (by subst eS; rfl) (by subst eS; rfl) (by subst eS; rfl) (by subst eS; rfl)) hP hD hS (lv_sub hl [2, 3, 4, 5, 6, 7] rfl)

set_option maxRecDepth 100000 in
set_option maxHeartbeats 4000000 in
theorem case_13 {p : Program} {l : Launch} {e : Env} {s : State} {m : MethodId} {below : List Frame} {meth : Method} {cq : Code} {G : va_G} {cy : Nat → ClassId} {kS vS : Nat → Nat} {A : Nat → Prop} {a : LA} {b L q : Nat} {xs : Nat → Int32} {Q : State → Prop} {n0 cells slots : Nat} (hC : LC l p s m meth cq G cy kS vS A b L xs) (hq : 4 * q + 4 ≤ L) (hn0 : n0 < 1000000) (hc1 : cells + 1 ≤ room_1.cells) (hs1 : slots + 6 ≤ room_1.slots) (kk : LGo p l e s m below meth cq G cy A a b q Q (n0 + 300) (cells + 1) (slots + 6) 2890) : LGo p l e s m below meth cq G cy A a b q Q n0 cells slots 1081 := by
  intro s9 H locs ls hI hP hD hS hl
  obtain ⟨hx, hb, hml, hown, hts⟩ := id hC.S9
  have hL9 := hC.hL
  have hc0 : cells + 0 ≤ room_1.cells := Nat.le_of_succ_le hc1
  have hcn : cells ≤ room_1.cells := Nat.le_of_succ_le hc1
  have hs0 : slots + 0 ≤ room_1.slots := Nat.le_trans (Nat.le_add_right slots 6) hs1
  have hsn : slots ≤ room_1.slots := Nat.le_trans (Nat.le_add_right slots 6) hs1
  have ho := hI.1.1
  have hN0 := ho.1
  have hM0 := ho.2.1
  have hE0 := ho.2.2.1
  have hnx := hI.2.2.2.2.1
  have hct := hI.2.2.2.2.2.1
  by_cases hF : inI (xs (4 * q + 1)) (nI (nB s9.σ)) = true
  · obtain ⟨j, hj, e1⟩ := ix_of (by omega) hF
    by_cases hF2 : inI (xs (4 * q + 2)) (nI (nB s9.σ)) = true
    · obtain ⟨k9, hk9, e2⟩ := ix_of (by omega) hF2
      by_cases hwt : wet (vB s9.σ) j = true
      · by_cases hwk : wet (vB s9.σ) k9 = true
        · by_cases hz : (if hotter (vB s9.σ) (hB s9.σ) j k9 = true then (1 : Int32) else 0) = 0
          · obtain ⟨S9, eS⟩ : ∃ z : LwS, z = (LwS.mk s9.σ s9.υ s9.ς s9.hs s9.ep s9.fc s9.ml 0 s9.nx s9.ct s9.nb s9.n s9.LN s9.CM s9.ρ s9.x s9.x0 s9.f s9.gk s9.g1 s9.g2 s9.g3 s9.fb s9.fB s9.fA s9.fV s9.fP s9.fO s9.g (fun _ => vL (if hotter (vB s9.σ) (hB s9.σ) j k9 = true then 1 else 0)) s9.fd) := ⟨_, rfl⟩
            refine lv_aload_n hx hb dL_law_1081 rfl (lv_at hl 4 rfl) ?_
            refine lv_aload_n hx hb dL_law_1082 rfl (lv_at hl 5 rfl) ?_
            refine lv_iload hx hb dL_law_1083 (lv_at hl 0 rfl) ?_
            refine lv_iconst (v := 1) hx hb dL_law_1085 (by decide) ?_
            refine lv_iadd hx hb dL_law_1086 ?_
            refine m_sld (v := nI j) hx hb hC.hX hC.hbl hC.hbA hS (k := 4 * q + 1) (m_add rfl rfl) (by omega) hC.hL e1 dL_law_1087 ?_
            refine lv_aload_n hx hb dL_law_1088 rfl (lv_at hl 5 rfl) ?_
            refine lv_iload hx hb dL_law_1089 (lv_at hl 0 rfl) ?_
            refine lv_iconst (v := 2) hx hb dL_law_1091 (by decide) ?_
            refine lv_iadd hx hb dL_law_1092 ?_
            refine m_sld (v := nI k9) hx hb hC.hX hC.hbl hC.hbA hS (k := 4 * q + 2) (m_add rfl rfl) (by omega) hC.hL e2 dL_law_1093 ?_
            refine lv_aload_n hx hb dL_law_1094 rfl (lv_at hl 2 rfl) ?_
            refine lw_w (Wc := (LCh cy a s9 s9)) (Wn := (LCh cy a S9 s9)) hC (w_isWarmer_ok l G cy kS vS a.aX a.na a.tr a.sn s9.hs a.hi a.sc s9.ep s9.fc a.ob s9.σ j k9 a.oA s9.fo hI.1.1 hj hk9 hwt hwk) (vx_cwSW 4 hC.S9.2.2.2.2 gL_law_L_isWarmer rfl rfl rfl (by decide +kernel) ⟨Nat.le_of_ble_eq_true rfl, Nat.le_of_ble_eq_true rfl⟩) [0, 1, 24] rfl (by decide) (SameL.cons SameA.rf (SameL.cons SameA.rf (SameL.cons SameA.one SameL.nil))) (by subst eS; rfl) hP hD hS rfl hl.1 rfl (Nat.le_of_ble_eq_true rfl) ⟨hc0, hs0⟩ dL_law_1095 (fun H locs hP hD hS => ?_)
            refine lv_istore (lv' := [(6, .int 0), (5, .int (nI (4 * q))), (4, .ref a.oD), (3, .ref a.oA), (2, .ref a.am), (1, .ref a.aX), (0, .ref b)]) hx hb dL_law_1098 hl (by decide) rfl (fun ls hl => ?_)
            refine lv_aload_n hx hb dL_law_1100 rfl (lv_at hl 4 rfl) ?_
            refine lv_aload_n hx hb dL_law_1101 rfl (lv_at hl 6 rfl) ?_
            refine lv_iload hx hb dL_law_1102 (lv_at hl 1 rfl) ?_
            refine lv_iconst (v := 1) hx hb dL_law_1104 (by decide) ?_
            refine lv_iadd hx hb dL_law_1105 ?_
            refine m_sld (v := nI j) hx hb hC.hX hC.hbl hC.hbA hS (k := 4 * q + 1) (m_add rfl rfl) (by omega) hC.hL e1 dL_law_1106 ?_
            refine lv_aload_n hx hb dL_law_1107 rfl (lv_at hl 6 rfl) ?_
            refine lv_iload hx hb dL_law_1108 (lv_at hl 1 rfl) ?_
            refine lv_iconst (v := 2) hx hb dL_law_1110 (by decide) ?_
            refine lv_iadd hx hb dL_law_1111 ?_
            refine m_sld (v := nI k9) hx hb hC.hX hC.hbl hC.hbA hS (k := 4 * q + 2) (m_add rfl rfl) (by omega) hC.hL e2 dL_law_1112 ?_
            refine lw_m (s1 := S9) (t1 := s9) (Wn := (LCh cy a S9 S9)) hC (c_X8_isWarmer_ok l G cy a.am a.aS a.aBf a.aAs a.aSv a.aPa a.aOu a.aTx a.aCo s9.ct s9.nb s9.LN ((s9.x0).1) s9.CM s9.hs s9.th (bI (s9.x0).2) s9.ep s9.fc s9.σ j k9 hI.1.1 hj hk9 hI.1.bd hwt hwk) (cwV 2 hC.S9.2.2.2.2 gL_law_X8_isWarmer rfl rfl rfl (by decide +kernel) ⟨Nat.le_of_ble_eq_true rfl, Nat.le_of_ble_eq_true rfl⟩) [15, 16] rfl (by decide) (SameR.cons (SameR.cons SameR.nil)) (by subst eS; rfl) hP hD hS rfl hl.1 rfl (Nat.le_of_ble_eq_true rfl) ⟨hcn, hsn⟩ dL_law_1113 (fun H locs hP hD hS => ?_)
            refine lv_istore (lv' := [(7, .int (if hotter (vB s9.σ) (hB s9.σ) j k9 = true then 1 else 0)), (6, .int 0), (5, .int (nI (4 * q))), (4, .ref a.oD), (3, .ref a.oA), (2, .ref a.am), (1, .ref a.aX), (0, .ref b)]) hx hb dL_law_1116 hl (by decide) rfl (fun ls hl => ?_)
            refine lv_aload_n hx hb dL_law_1118 rfl (lv_at hl 5 rfl) ?_
            refine lw_thrown (s1 := S9) (t1 := S9) (k := 0) hC hP (by subst eS; rfl) hl.1 (Nat.le_of_ble_eq_true rfl) ⟨hcn, hsn⟩ dL_law_1119 ?_
            refine lv_iload hx hb dL_law_1122 (lv_at hl 1 rfl) ?_
            refine lv_icmp_eq (tgt := 1129) hx hb dL_law_1124 (by decide) (fun c_1124 => ?_) (fun c_1124 => ?_)
            rotate_left
            · exact absurd c_1124 (by decide)
            refine lv_iload hx hb dL_law_1129 (lv_at hl 1 rfl) ?_
            refine lv_if_ne (tgt := 1153) hx hb dL_law_1131 (by decide) (fun c_1131 => ?_) (fun c_1131 => ?_)
            · exact absurd c_1131 (by decide)
            refine lv_aload_n hx hb dL_law_1134 rfl (lv_at hl 4 rfl) ?_
            refine lv_iconst (v := 0) hx hb dL_law_1135 (by decide) ?_
            refine lw_ldL (s1 := S9) (t1 := S9) (x := vL (if hotter (vB s9.σ) (hB s9.σ) j k9 = true then 1 else 0)) hC hP (by subst eS; rfl) dL_law_1136 ?_
            refine lv_iload hx hb dL_law_1137 (lv_at hl 0 rfl) ?_
            refine lv_if_eq (tgt := 1146) hx hb dL_law_1139 (by decide) (fun c_1139 => ?_) (fun c_1139 => ?_)
            rotate_left
            · exact absurd hz c_1139
            refine lv_lconst (v := 0) hx hb dL_law_1146 (by decide) ?_
            refine m_lcmp0 hx hb (if_pos hz) dL_law_1147 ?_
            refine lv_if_eq (tgt := 1153) hx hb dL_law_1148 (by decide) (fun c_1148 => ?_) (fun c_1148 => ?_)
            rotate_left
            · exact absurd c_1148 (by decide)
            refine lv_goto (tgt := 2890) hx hb dL_law_1153 (by decide) ?_
            refine W.widen (k := cells + 1) (n := slots + 6) (by omega) (by omega) ?_
            exact kk S9 H locs ls (LI.of (LI.mono hI (by omega)) (by subst eS; rfl) (by subst eS; rfl) (by subst eS; rfl) (by subst eS; rfl) (by subst eS; rfl) (by subst eS; rfl) (by subst eS; rfl) (by subst eS; rfl) (by subst eS; rfl) (by subst eS; rfl) (by subst eS; rfl) (by subst eS; rfl) (by subst eS; rfl) (by subst eS; rfl) (by subst eS; rfl)) hP hD hS (lv_sub hl [2, 3, 4, 5, 6, 7] rfl)
          · obtain ⟨S9, eS⟩ : ∃ z : LwS, z = (LwS.mk s9.σ s9.υ s9.ς s9.hs s9.ep s9.fc s9.ml 0 s9.nx s9.ct s9.nb s9.n s9.LN s9.CM s9.ρ s9.x s9.x0 s9.f s9.gk s9.g1 s9.g2 s9.g3 s9.fb s9.fB s9.fA s9.fV s9.fP s9.fO s9.g (fun _ => vL (if hotter (vB s9.σ) (hB s9.σ) j k9 = true then 1 else 0)) s9.fd) := ⟨_, rfl⟩
            refine lv_aload_n hx hb dL_law_1081 rfl (lv_at hl 4 rfl) ?_
            refine lv_aload_n hx hb dL_law_1082 rfl (lv_at hl 5 rfl) ?_
            refine lv_iload hx hb dL_law_1083 (lv_at hl 0 rfl) ?_
            refine lv_iconst (v := 1) hx hb dL_law_1085 (by decide) ?_
            refine lv_iadd hx hb dL_law_1086 ?_
            refine m_sld (v := nI j) hx hb hC.hX hC.hbl hC.hbA hS (k := 4 * q + 1) (m_add rfl rfl) (by omega) hC.hL e1 dL_law_1087 ?_
            refine lv_aload_n hx hb dL_law_1088 rfl (lv_at hl 5 rfl) ?_
            refine lv_iload hx hb dL_law_1089 (lv_at hl 0 rfl) ?_
            refine lv_iconst (v := 2) hx hb dL_law_1091 (by decide) ?_
            refine lv_iadd hx hb dL_law_1092 ?_
            refine m_sld (v := nI k9) hx hb hC.hX hC.hbl hC.hbA hS (k := 4 * q + 2) (m_add rfl rfl) (by omega) hC.hL e2 dL_law_1093 ?_
            refine lv_aload_n hx hb dL_law_1094 rfl (lv_at hl 2 rfl) ?_
            refine lw_w (Wc := (LCh cy a s9 s9)) (Wn := (LCh cy a S9 s9)) hC (w_isWarmer_ok l G cy kS vS a.aX a.na a.tr a.sn s9.hs a.hi a.sc s9.ep s9.fc a.ob s9.σ j k9 a.oA s9.fo hI.1.1 hj hk9 hwt hwk) (vx_cwSW 4 hC.S9.2.2.2.2 gL_law_L_isWarmer rfl rfl rfl (by decide +kernel) ⟨Nat.le_of_ble_eq_true rfl, Nat.le_of_ble_eq_true rfl⟩) [0, 1, 24] rfl (by decide) (SameL.cons SameA.rf (SameL.cons SameA.rf (SameL.cons SameA.one SameL.nil))) (by subst eS; rfl) hP hD hS rfl hl.1 rfl (Nat.le_of_ble_eq_true rfl) ⟨hc0, hs0⟩ dL_law_1095 (fun H locs hP hD hS => ?_)
            refine lv_istore (lv' := [(6, .int 0), (5, .int (nI (4 * q))), (4, .ref a.oD), (3, .ref a.oA), (2, .ref a.am), (1, .ref a.aX), (0, .ref b)]) hx hb dL_law_1098 hl (by decide) rfl (fun ls hl => ?_)
            refine lv_aload_n hx hb dL_law_1100 rfl (lv_at hl 4 rfl) ?_
            refine lv_aload_n hx hb dL_law_1101 rfl (lv_at hl 6 rfl) ?_
            refine lv_iload hx hb dL_law_1102 (lv_at hl 1 rfl) ?_
            refine lv_iconst (v := 1) hx hb dL_law_1104 (by decide) ?_
            refine lv_iadd hx hb dL_law_1105 ?_
            refine m_sld (v := nI j) hx hb hC.hX hC.hbl hC.hbA hS (k := 4 * q + 1) (m_add rfl rfl) (by omega) hC.hL e1 dL_law_1106 ?_
            refine lv_aload_n hx hb dL_law_1107 rfl (lv_at hl 6 rfl) ?_
            refine lv_iload hx hb dL_law_1108 (lv_at hl 1 rfl) ?_
            refine lv_iconst (v := 2) hx hb dL_law_1110 (by decide) ?_
            refine lv_iadd hx hb dL_law_1111 ?_
            refine m_sld (v := nI k9) hx hb hC.hX hC.hbl hC.hbA hS (k := 4 * q + 2) (m_add rfl rfl) (by omega) hC.hL e2 dL_law_1112 ?_
            refine lw_m (s1 := S9) (t1 := s9) (Wn := (LCh cy a S9 S9)) hC (c_X8_isWarmer_ok l G cy a.am a.aS a.aBf a.aAs a.aSv a.aPa a.aOu a.aTx a.aCo s9.ct s9.nb s9.LN ((s9.x0).1) s9.CM s9.hs s9.th (bI (s9.x0).2) s9.ep s9.fc s9.σ j k9 hI.1.1 hj hk9 hI.1.bd hwt hwk) (cwV 2 hC.S9.2.2.2.2 gL_law_X8_isWarmer rfl rfl rfl (by decide +kernel) ⟨Nat.le_of_ble_eq_true rfl, Nat.le_of_ble_eq_true rfl⟩) [15, 16] rfl (by decide) (SameR.cons (SameR.cons SameR.nil)) (by subst eS; rfl) hP hD hS rfl hl.1 rfl (Nat.le_of_ble_eq_true rfl) ⟨hcn, hsn⟩ dL_law_1113 (fun H locs hP hD hS => ?_)
            refine lv_istore (lv' := [(7, .int (if hotter (vB s9.σ) (hB s9.σ) j k9 = true then 1 else 0)), (6, .int 0), (5, .int (nI (4 * q))), (4, .ref a.oD), (3, .ref a.oA), (2, .ref a.am), (1, .ref a.aX), (0, .ref b)]) hx hb dL_law_1116 hl (by decide) rfl (fun ls hl => ?_)
            refine lv_aload_n hx hb dL_law_1118 rfl (lv_at hl 5 rfl) ?_
            refine lw_thrown (s1 := S9) (t1 := S9) (k := 0) hC hP (by subst eS; rfl) hl.1 (Nat.le_of_ble_eq_true rfl) ⟨hcn, hsn⟩ dL_law_1119 ?_
            refine lv_iload hx hb dL_law_1122 (lv_at hl 1 rfl) ?_
            refine lv_icmp_eq (tgt := 1129) hx hb dL_law_1124 (by decide) (fun c_1124 => ?_) (fun c_1124 => ?_)
            rotate_left
            · exact absurd c_1124 (by decide)
            refine lv_iload hx hb dL_law_1129 (lv_at hl 1 rfl) ?_
            refine lv_if_ne (tgt := 1153) hx hb dL_law_1131 (by decide) (fun c_1131 => ?_) (fun c_1131 => ?_)
            · exact absurd c_1131 (by decide)
            refine lv_aload_n hx hb dL_law_1134 rfl (lv_at hl 4 rfl) ?_
            refine lv_iconst (v := 0) hx hb dL_law_1135 (by decide) ?_
            refine lw_ldL (s1 := S9) (t1 := S9) (x := vL (if hotter (vB s9.σ) (hB s9.σ) j k9 = true then 1 else 0)) hC hP (by subst eS; rfl) dL_law_1136 ?_
            refine lv_iload hx hb dL_law_1137 (lv_at hl 0 rfl) ?_
            refine lv_if_eq (tgt := 1146) hx hb dL_law_1139 (by decide) (fun c_1139 => ?_) (fun c_1139 => ?_)
            · exact absurd c_1139 hz
            refine lv_lconst (v := 1) hx hb dL_law_1142 (by decide) ?_
            refine lv_goto (tgt := 1147) hx hb dL_law_1143 (by decide) ?_
            refine m_lcmp0 hx hb (if_neg hz) dL_law_1147 ?_
            refine lv_if_eq (tgt := 1153) hx hb dL_law_1148 (by decide) (fun c_1148 => ?_) (fun c_1148 => ?_)
            rotate_left
            · exact absurd c_1148 (by decide)
            refine lv_goto (tgt := 2890) hx hb dL_law_1153 (by decide) ?_
            refine W.widen (k := cells + 1) (n := slots + 6) (by omega) (by omega) ?_
            exact kk S9 H locs ls (LI.of (LI.mono hI (by omega)) (by subst eS; rfl) (by subst eS; rfl) (by subst eS; rfl) (by subst eS; rfl) (by subst eS; rfl) (by subst eS; rfl) (by subst eS; rfl) (by subst eS; rfl) (by subst eS; rfl) (by subst eS; rfl) (by subst eS; rfl) (by subst eS; rfl) (by subst eS; rfl) (by subst eS; rfl) (by subst eS; rfl)) hP hD hS (lv_sub hl [2, 3, 4, 5, 6, 7] rfl)
        · obtain ⟨S9, eS⟩ : ∃ z : LwS, z = (LwS.mk s9.σ s9.υ s9.ς s9.hs s9.ep s9.fc s9.ml 2 s9.nx s9.ct s9.nb s9.n s9.LN s9.CM s9.ρ s9.x s9.x0 s9.f s9.gk s9.g1 s9.g2 s9.g3 s9.fb s9.fB s9.fA s9.fV s9.fP s9.fO s9.g s9.fo s9.fd) := ⟨_, rfl⟩
          refine lv_aload_n hx hb dL_law_1081 rfl (lv_at hl 4 rfl) ?_
          refine lv_aload_n hx hb dL_law_1082 rfl (lv_at hl 5 rfl) ?_
          refine lv_iload hx hb dL_law_1083 (lv_at hl 0 rfl) ?_
          refine lv_iconst (v := 1) hx hb dL_law_1085 (by decide) ?_
          refine lv_iadd hx hb dL_law_1086 ?_
          refine m_sld (v := nI j) hx hb hC.hX hC.hbl hC.hbA hS (k := 4 * q + 1) (m_add rfl rfl) (by omega) hC.hL e1 dL_law_1087 ?_
          refine lv_aload_n hx hb dL_law_1088 rfl (lv_at hl 5 rfl) ?_
          refine lv_iload hx hb dL_law_1089 (lv_at hl 0 rfl) ?_
          refine lv_iconst (v := 2) hx hb dL_law_1091 (by decide) ?_
          refine lv_iadd hx hb dL_law_1092 ?_
          refine m_sld (v := nI k9) hx hb hC.hX hC.hbl hC.hbA hS (k := 4 * q + 2) (m_add rfl rfl) (by omega) hC.hL e2 dL_law_1093 ?_
          refine lv_aload_n hx hb dL_law_1094 rfl (lv_at hl 2 rfl) ?_
          refine lw_w (Wc := (LCh cy a s9 s9)) (Wn := (LCh cy a S9 s9)) hC (w_isWarmer_4 l G cy kS vS a.aX a.na a.tr a.sn s9.hs a.hi a.sc s9.ep s9.fc a.ob s9.σ j k9 a.oA s9.fo hC.hl9 hI.1.1 hj hk9 hwt hwk) (vx_cwSW 4 hC.S9.2.2.2.2 gL_law_L_isWarmer rfl rfl rfl (by decide +kernel) ⟨Nat.le_of_ble_eq_true rfl, Nat.le_of_ble_eq_true rfl⟩) [0, 1, 24] rfl (by decide) (SameL.cons SameA.rf (SameL.cons SameA.rf (SameL.cons SameA.rf SameL.nil))) (by subst eS; rfl) hP hD hS rfl hl.1 rfl (Nat.le_of_ble_eq_true rfl) ⟨hc1, hs1⟩ dL_law_1095 (fun H locs hP hD hS => ?_)
          refine lv_istore (lv' := [(6, .int 2), (5, .int (nI (4 * q))), (4, .ref a.oD), (3, .ref a.oA), (2, .ref a.am), (1, .ref a.aX), (0, .ref b)]) hx hb dL_law_1098 hl (by decide) rfl (fun ls hl => ?_)
          refine lv_aload_n hx hb dL_law_1100 rfl (lv_at hl 4 rfl) ?_
          refine lv_aload_n hx hb dL_law_1101 rfl (lv_at hl 6 rfl) ?_
          refine lv_iload hx hb dL_law_1102 (lv_at hl 1 rfl) ?_
          refine lv_iconst (v := 1) hx hb dL_law_1104 (by decide) ?_
          refine lv_iadd hx hb dL_law_1105 ?_
          refine m_sld (v := nI j) hx hb hC.hX hC.hbl hC.hbA hS (k := 4 * q + 1) (m_add rfl rfl) (by omega) hC.hL e1 dL_law_1106 ?_
          refine lv_aload_n hx hb dL_law_1107 rfl (lv_at hl 6 rfl) ?_
          refine lv_iload hx hb dL_law_1108 (lv_at hl 1 rfl) ?_
          refine lv_iconst (v := 2) hx hb dL_law_1110 (by decide) ?_
          refine lv_iadd hx hb dL_law_1111 ?_
          refine m_sld (v := nI k9) hx hb hC.hX hC.hbl hC.hbA hS (k := 4 * q + 2) (m_add rfl rfl) (by omega) hC.hL e2 dL_law_1112 ?_
          refine lw_m (s1 := S9) (t1 := s9) (Wn := (LCh cy a S9 S9)) hC (c_X8_isWarmer_no4 l G cy a.am a.aS a.aBf a.aAs a.aSv a.aPa a.aOu a.aTx a.aCo s9.ct s9.nb s9.LN ((s9.x0).1) s9.CM s9.hs s9.th (bI (s9.x0).2) s9.ep s9.fc s9.σ j k9 hI.1.1 hj hk9 hwt hwk) (cwV 2 hC.S9.2.2.2.2 gL_law_X8_isWarmer rfl rfl rfl (by decide +kernel) ⟨Nat.le_of_ble_eq_true rfl, Nat.le_of_ble_eq_true rfl⟩) [15, 16] rfl (by decide) (SameR.cons (SameR.cons SameR.nil)) (by subst eS; rfl) hP hD hS rfl hl.1 rfl (Nat.le_of_ble_eq_true rfl) ⟨hc1, hs1⟩ dL_law_1113 (fun H locs hP hD hS => ?_)
          refine lv_istore (lv' := [(7, .int 0), (6, .int 2), (5, .int (nI (4 * q))), (4, .ref a.oD), (3, .ref a.oA), (2, .ref a.am), (1, .ref a.aX), (0, .ref b)]) hx hb dL_law_1116 hl (by decide) rfl (fun ls hl => ?_)
          refine lv_aload_n hx hb dL_law_1118 rfl (lv_at hl 5 rfl) ?_
          refine lw_thrown (s1 := S9) (t1 := S9) (k := 2) hC hP (by subst eS; rfl) hl.1 (Nat.le_of_ble_eq_true rfl) ⟨hc1, hs1⟩ dL_law_1119 ?_
          refine lv_iload hx hb dL_law_1122 (lv_at hl 1 rfl) ?_
          refine lv_icmp_eq (tgt := 1129) hx hb dL_law_1124 (by decide) (fun c_1124 => ?_) (fun c_1124 => ?_)
          rotate_left
          · exact absurd c_1124 (by decide)
          refine lv_iload hx hb dL_law_1129 (lv_at hl 1 rfl) ?_
          refine lv_if_ne (tgt := 1153) hx hb dL_law_1131 (by decide) (fun c_1131 => ?_) (fun c_1131 => ?_)
          rotate_left
          · exact absurd c_1131 (by decide)
          refine lv_goto (tgt := 2890) hx hb dL_law_1153 (by decide) ?_
          exact kk S9 H locs ls (LI.of (LI.mono hI (by omega)) (by subst eS; rfl) (by subst eS; rfl) (by subst eS; rfl) (by subst eS; rfl) (by subst eS; rfl) (by subst eS; rfl) (by subst eS; rfl) (by subst eS; rfl) (by subst eS; rfl) (by subst eS; rfl) (by subst eS; rfl) (by subst eS; rfl) (by subst eS; rfl) (by subst eS; rfl) (by subst eS; rfl)) hP hD hS (lv_sub hl [2, 3, 4, 5, 6, 7] rfl)
      · obtain ⟨S9, eS⟩ : ∃ z : LwS, z = (LwS.mk s9.σ s9.υ s9.ς s9.hs s9.ep s9.fc s9.ml 2 s9.nx s9.ct s9.nb s9.n s9.LN s9.CM s9.ρ s9.x s9.x0 s9.f s9.gk s9.g1 s9.g2 s9.g3 s9.fb s9.fB s9.fA s9.fV s9.fP s9.fO s9.g s9.fo s9.fd) := ⟨_, rfl⟩
        refine lv_aload_n hx hb dL_law_1081 rfl (lv_at hl 4 rfl) ?_
        refine lv_aload_n hx hb dL_law_1082 rfl (lv_at hl 5 rfl) ?_
        refine lv_iload hx hb dL_law_1083 (lv_at hl 0 rfl) ?_
        refine lv_iconst (v := 1) hx hb dL_law_1085 (by decide) ?_
        refine lv_iadd hx hb dL_law_1086 ?_
        refine m_sld (v := nI j) hx hb hC.hX hC.hbl hC.hbA hS (k := 4 * q + 1) (m_add rfl rfl) (by omega) hC.hL e1 dL_law_1087 ?_
        refine lv_aload_n hx hb dL_law_1088 rfl (lv_at hl 5 rfl) ?_
        refine lv_iload hx hb dL_law_1089 (lv_at hl 0 rfl) ?_
        refine lv_iconst (v := 2) hx hb dL_law_1091 (by decide) ?_
        refine lv_iadd hx hb dL_law_1092 ?_
        refine m_sld (v := nI k9) hx hb hC.hX hC.hbl hC.hbA hS (k := 4 * q + 2) (m_add rfl rfl) (by omega) hC.hL e2 dL_law_1093 ?_
        refine lv_aload_n hx hb dL_law_1094 rfl (lv_at hl 2 rfl) ?_
        refine lw_w (Wc := (LCh cy a s9 s9)) (Wn := (LCh cy a S9 s9)) hC (w_isWarmer_3 l G cy kS vS a.aX a.na a.tr a.sn s9.hs a.hi a.sc s9.ep s9.fc a.ob s9.σ j k9 a.oA s9.fo hC.hl9 hI.1.1 hj hk9 hwt) (vx_cwSW 4 hC.S9.2.2.2.2 gL_law_L_isWarmer rfl rfl rfl (by decide +kernel) ⟨Nat.le_of_ble_eq_true rfl, Nat.le_of_ble_eq_true rfl⟩) [0, 1, 24] rfl (by decide) (SameL.cons SameA.rf (SameL.cons SameA.rf (SameL.cons SameA.rf SameL.nil))) (by subst eS; rfl) hP hD hS rfl hl.1 rfl (Nat.le_of_ble_eq_true rfl) ⟨hc1, hs1⟩ dL_law_1095 (fun H locs hP hD hS => ?_)
        refine lv_istore (lv' := [(6, .int 2), (5, .int (nI (4 * q))), (4, .ref a.oD), (3, .ref a.oA), (2, .ref a.am), (1, .ref a.aX), (0, .ref b)]) hx hb dL_law_1098 hl (by decide) rfl (fun ls hl => ?_)
        refine lv_aload_n hx hb dL_law_1100 rfl (lv_at hl 4 rfl) ?_
        refine lv_aload_n hx hb dL_law_1101 rfl (lv_at hl 6 rfl) ?_
        refine lv_iload hx hb dL_law_1102 (lv_at hl 1 rfl) ?_
        refine lv_iconst (v := 1) hx hb dL_law_1104 (by decide) ?_
        refine lv_iadd hx hb dL_law_1105 ?_
        refine m_sld (v := nI j) hx hb hC.hX hC.hbl hC.hbA hS (k := 4 * q + 1) (m_add rfl rfl) (by omega) hC.hL e1 dL_law_1106 ?_
        refine lv_aload_n hx hb dL_law_1107 rfl (lv_at hl 6 rfl) ?_
        refine lv_iload hx hb dL_law_1108 (lv_at hl 1 rfl) ?_
        refine lv_iconst (v := 2) hx hb dL_law_1110 (by decide) ?_
        refine lv_iadd hx hb dL_law_1111 ?_
        refine m_sld (v := nI k9) hx hb hC.hX hC.hbl hC.hbA hS (k := 4 * q + 2) (m_add rfl rfl) (by omega) hC.hL e2 dL_law_1112 ?_
        refine lw_m (s1 := S9) (t1 := s9) (Wn := (LCh cy a S9 S9)) hC (c_X8_isWarmer_no3 l G cy a.am a.aS a.aBf a.aAs a.aSv a.aPa a.aOu a.aTx a.aCo s9.ct s9.nb s9.LN ((s9.x0).1) s9.CM s9.hs s9.th (bI (s9.x0).2) s9.ep s9.fc s9.σ j k9 hI.1.1 hj hk9 hwt) (cwV 2 hC.S9.2.2.2.2 gL_law_X8_isWarmer rfl rfl rfl (by decide +kernel) ⟨Nat.le_of_ble_eq_true rfl, Nat.le_of_ble_eq_true rfl⟩) [15, 16] rfl (by decide) (SameR.cons (SameR.cons SameR.nil)) (by subst eS; rfl) hP hD hS rfl hl.1 rfl (Nat.le_of_ble_eq_true rfl) ⟨hc1, hs1⟩ dL_law_1113 (fun H locs hP hD hS => ?_)
        refine lv_istore (lv' := [(7, .int 0), (6, .int 2), (5, .int (nI (4 * q))), (4, .ref a.oD), (3, .ref a.oA), (2, .ref a.am), (1, .ref a.aX), (0, .ref b)]) hx hb dL_law_1116 hl (by decide) rfl (fun ls hl => ?_)
        refine lv_aload_n hx hb dL_law_1118 rfl (lv_at hl 5 rfl) ?_
        refine lw_thrown (s1 := S9) (t1 := S9) (k := 2) hC hP (by subst eS; rfl) hl.1 (Nat.le_of_ble_eq_true rfl) ⟨hc1, hs1⟩ dL_law_1119 ?_
        refine lv_iload hx hb dL_law_1122 (lv_at hl 1 rfl) ?_
        refine lv_icmp_eq (tgt := 1129) hx hb dL_law_1124 (by decide) (fun c_1124 => ?_) (fun c_1124 => ?_)
        rotate_left
        · exact absurd c_1124 (by decide)
        refine lv_iload hx hb dL_law_1129 (lv_at hl 1 rfl) ?_
        refine lv_if_ne (tgt := 1153) hx hb dL_law_1131 (by decide) (fun c_1131 => ?_) (fun c_1131 => ?_)
        rotate_left
        · exact absurd c_1131 (by decide)
        refine lv_goto (tgt := 2890) hx hb dL_law_1153 (by decide) ?_
        exact kk S9 H locs ls (LI.of (LI.mono hI (by omega)) (by subst eS; rfl) (by subst eS; rfl) (by subst eS; rfl) (by subst eS; rfl) (by subst eS; rfl) (by subst eS; rfl) (by subst eS; rfl) (by subst eS; rfl) (by subst eS; rfl) (by subst eS; rfl) (by subst eS; rfl) (by subst eS; rfl) (by subst eS; rfl) (by subst eS; rfl) (by subst eS; rfl)) hP hD hS (lv_sub hl [2, 3, 4, 5, 6, 7] rfl)
    · obtain ⟨S9, eS⟩ : ∃ z : LwS, z = (LwS.mk s9.σ s9.υ s9.ς s9.hs s9.ep s9.fc s9.ml 1 s9.nx s9.ct s9.nb s9.n s9.LN s9.CM s9.ρ s9.x s9.x0 s9.f s9.gk s9.g1 s9.g2 s9.g3 s9.fb s9.fB s9.fA s9.fV s9.fP s9.fO s9.g s9.fo s9.fd) := ⟨_, rfl⟩
      refine lv_aload_n hx hb dL_law_1081 rfl (lv_at hl 4 rfl) ?_
      refine lv_aload_n hx hb dL_law_1082 rfl (lv_at hl 5 rfl) ?_
      refine lv_iload hx hb dL_law_1083 (lv_at hl 0 rfl) ?_
      refine lv_iconst (v := 1) hx hb dL_law_1085 (by decide) ?_
      refine lv_iadd hx hb dL_law_1086 ?_
      refine m_sld (v := nI j) hx hb hC.hX hC.hbl hC.hbA hS (k := 4 * q + 1) (m_add rfl rfl) (by omega) hC.hL e1 dL_law_1087 ?_
      refine lv_aload_n hx hb dL_law_1088 rfl (lv_at hl 5 rfl) ?_
      refine lv_iload hx hb dL_law_1089 (lv_at hl 0 rfl) ?_
      refine lv_iconst (v := 2) hx hb dL_law_1091 (by decide) ?_
      refine lv_iadd hx hb dL_law_1092 ?_
      refine m_sld (v := xs (4 * q + 2)) hx hb hC.hX hC.hbl hC.hbA hS (k := 4 * q + 2) (m_add rfl rfl) (by omega) hC.hL rfl dL_law_1093 ?_
      refine lv_aload_n hx hb dL_law_1094 rfl (lv_at hl 2 rfl) ?_
      refine lw_w (Wc := (LCh cy a s9 s9)) (Wn := (LCh cy a S9 s9)) hC (w_isWarmer_2 l G cy kS vS a.aX a.na a.tr a.sn s9.hs a.hi a.sc s9.ep s9.fc a.ob s9.σ j (xs (4 * q + 2)) a.oA s9.fo hC.hl9 hI.1.1 hj hF2) (vx_cwSW 4 hC.S9.2.2.2.2 gL_law_L_isWarmer rfl rfl rfl (by decide +kernel) ⟨Nat.le_of_ble_eq_true rfl, Nat.le_of_ble_eq_true rfl⟩) [0, 1, 24] rfl (by decide) (SameL.cons SameA.rf (SameL.cons SameA.rf (SameL.cons SameA.rf SameL.nil))) (by subst eS; rfl) hP hD hS rfl hl.1 rfl (Nat.le_of_ble_eq_true rfl) ⟨hc1, hs1⟩ dL_law_1095 (fun H locs hP hD hS => ?_)
      refine lv_istore (lv' := [(6, .int 1), (5, .int (nI (4 * q))), (4, .ref a.oD), (3, .ref a.oA), (2, .ref a.am), (1, .ref a.aX), (0, .ref b)]) hx hb dL_law_1098 hl (by decide) rfl (fun ls hl => ?_)
      refine lv_aload_n hx hb dL_law_1100 rfl (lv_at hl 4 rfl) ?_
      refine lv_aload_n hx hb dL_law_1101 rfl (lv_at hl 6 rfl) ?_
      refine lv_iload hx hb dL_law_1102 (lv_at hl 1 rfl) ?_
      refine lv_iconst (v := 1) hx hb dL_law_1104 (by decide) ?_
      refine lv_iadd hx hb dL_law_1105 ?_
      refine m_sld (v := nI j) hx hb hC.hX hC.hbl hC.hbA hS (k := 4 * q + 1) (m_add rfl rfl) (by omega) hC.hL e1 dL_law_1106 ?_
      refine lv_aload_n hx hb dL_law_1107 rfl (lv_at hl 6 rfl) ?_
      refine lv_iload hx hb dL_law_1108 (lv_at hl 1 rfl) ?_
      refine lv_iconst (v := 2) hx hb dL_law_1110 (by decide) ?_
      refine lv_iadd hx hb dL_law_1111 ?_
      refine m_sld (v := xs (4 * q + 2)) hx hb hC.hX hC.hbl hC.hbA hS (k := 4 * q + 2) (m_add rfl rfl) (by omega) hC.hL rfl dL_law_1112 ?_
      refine lw_m (s1 := S9) (t1 := s9) (Wn := (LCh cy a S9 S9)) hC (c_X8_isWarmer_no2 l G cy a.am a.aS a.aBf a.aAs a.aSv a.aPa a.aOu a.aTx a.aCo s9.ct s9.nb s9.LN ((s9.x0).1) s9.CM s9.hs s9.th (bI (s9.x0).2) s9.ep s9.fc s9.σ j (xs (4 * q + 2)) hI.1.1 hj hF2) (cwV 2 hC.S9.2.2.2.2 gL_law_X8_isWarmer rfl rfl rfl (by decide +kernel) ⟨Nat.le_of_ble_eq_true rfl, Nat.le_of_ble_eq_true rfl⟩) [15, 16] rfl (by decide) (SameR.cons (SameR.cons SameR.nil)) (by subst eS; rfl) hP hD hS rfl hl.1 rfl (Nat.le_of_ble_eq_true rfl) ⟨hc1, hs1⟩ dL_law_1113 (fun H locs hP hD hS => ?_)
      refine lv_istore (lv' := [(7, .int 0), (6, .int 1), (5, .int (nI (4 * q))), (4, .ref a.oD), (3, .ref a.oA), (2, .ref a.am), (1, .ref a.aX), (0, .ref b)]) hx hb dL_law_1116 hl (by decide) rfl (fun ls hl => ?_)
      refine lv_aload_n hx hb dL_law_1118 rfl (lv_at hl 5 rfl) ?_
      refine lw_thrown (s1 := S9) (t1 := S9) (k := 1) hC hP (by subst eS; rfl) hl.1 (Nat.le_of_ble_eq_true rfl) ⟨hc1, hs1⟩ dL_law_1119 ?_
      refine lv_iload hx hb dL_law_1122 (lv_at hl 1 rfl) ?_
      refine lv_icmp_eq (tgt := 1129) hx hb dL_law_1124 (by decide) (fun c_1124 => ?_) (fun c_1124 => ?_)
      rotate_left
      · exact absurd c_1124 (by decide)
      refine lv_iload hx hb dL_law_1129 (lv_at hl 1 rfl) ?_
      refine lv_if_ne (tgt := 1153) hx hb dL_law_1131 (by decide) (fun c_1131 => ?_) (fun c_1131 => ?_)
      rotate_left
      · exact absurd c_1131 (by decide)
      refine lv_goto (tgt := 2890) hx hb dL_law_1153 (by decide) ?_
      exact kk S9 H locs ls (LI.of (LI.mono hI (by omega)) (by subst eS; rfl) (by subst eS; rfl) (by subst eS; rfl) (by subst eS; rfl) (by subst eS; rfl) (by subst eS; rfl) (by subst eS; rfl) (by subst eS; rfl) (by subst eS; rfl) (by subst eS; rfl) (by subst eS; rfl) (by subst eS; rfl) (by subst eS; rfl) (by subst eS; rfl) (by subst eS; rfl)) hP hD hS (lv_sub hl [2, 3, 4, 5, 6, 7] rfl)
  · obtain ⟨S9, eS⟩ : ∃ z : LwS, z = (LwS.mk s9.σ s9.υ s9.ς s9.hs s9.ep s9.fc s9.ml 1 s9.nx s9.ct s9.nb s9.n s9.LN s9.CM s9.ρ s9.x s9.x0 s9.f s9.gk s9.g1 s9.g2 s9.g3 s9.fb s9.fB s9.fA s9.fV s9.fP s9.fO s9.g s9.fo s9.fd) := ⟨_, rfl⟩
    refine lv_aload_n hx hb dL_law_1081 rfl (lv_at hl 4 rfl) ?_
    refine lv_aload_n hx hb dL_law_1082 rfl (lv_at hl 5 rfl) ?_
    refine lv_iload hx hb dL_law_1083 (lv_at hl 0 rfl) ?_
    refine lv_iconst (v := 1) hx hb dL_law_1085 (by decide) ?_
    refine lv_iadd hx hb dL_law_1086 ?_
    refine m_sld (v := xs (4 * q + 1)) hx hb hC.hX hC.hbl hC.hbA hS (k := 4 * q + 1) (m_add rfl rfl) (by omega) hC.hL rfl dL_law_1087 ?_
    refine lv_aload_n hx hb dL_law_1088 rfl (lv_at hl 5 rfl) ?_
    refine lv_iload hx hb dL_law_1089 (lv_at hl 0 rfl) ?_
    refine lv_iconst (v := 2) hx hb dL_law_1091 (by decide) ?_
    refine lv_iadd hx hb dL_law_1092 ?_
    refine m_sld (v := xs (4 * q + 2)) hx hb hC.hX hC.hbl hC.hbA hS (k := 4 * q + 2) (m_add rfl rfl) (by omega) hC.hL rfl dL_law_1093 ?_
    refine lv_aload_n hx hb dL_law_1094 rfl (lv_at hl 2 rfl) ?_
    refine lw_w (Wc := (LCh cy a s9 s9)) (Wn := (LCh cy a S9 s9)) hC (w_isWarmer_1 l G cy kS vS a.aX a.na a.tr a.sn s9.hs a.hi a.sc s9.ep s9.fc a.ob s9.σ (xs (4 * q + 1)) (xs (4 * q + 2)) a.oA s9.fo hC.hl9 hI.1.1 hF) (vx_cwSW 4 hC.S9.2.2.2.2 gL_law_L_isWarmer rfl rfl rfl (by decide +kernel) ⟨Nat.le_of_ble_eq_true rfl, Nat.le_of_ble_eq_true rfl⟩) [0, 1, 24] rfl (by decide) (SameL.cons SameA.rf (SameL.cons SameA.rf (SameL.cons SameA.rf SameL.nil))) (by subst eS; rfl) hP hD hS rfl hl.1 rfl (Nat.le_of_ble_eq_true rfl) ⟨hc1, hs1⟩ dL_law_1095 (fun H locs hP hD hS => ?_)
    refine lv_istore (lv' := [(6, .int 1), (5, .int (nI (4 * q))), (4, .ref a.oD), (3, .ref a.oA), (2, .ref a.am), (1, .ref a.aX), (0, .ref b)]) hx hb dL_law_1098 hl (by decide) rfl (fun ls hl => ?_)
    refine lv_aload_n hx hb dL_law_1100 rfl (lv_at hl 4 rfl) ?_
    refine lv_aload_n hx hb dL_law_1101 rfl (lv_at hl 6 rfl) ?_
    refine lv_iload hx hb dL_law_1102 (lv_at hl 1 rfl) ?_
    refine lv_iconst (v := 1) hx hb dL_law_1104 (by decide) ?_
    refine lv_iadd hx hb dL_law_1105 ?_
    refine m_sld (v := xs (4 * q + 1)) hx hb hC.hX hC.hbl hC.hbA hS (k := 4 * q + 1) (m_add rfl rfl) (by omega) hC.hL rfl dL_law_1106 ?_
    refine lv_aload_n hx hb dL_law_1107 rfl (lv_at hl 6 rfl) ?_
    refine lv_iload hx hb dL_law_1108 (lv_at hl 1 rfl) ?_
    refine lv_iconst (v := 2) hx hb dL_law_1110 (by decide) ?_
    refine lv_iadd hx hb dL_law_1111 ?_
    refine m_sld (v := xs (4 * q + 2)) hx hb hC.hX hC.hbl hC.hbA hS (k := 4 * q + 2) (m_add rfl rfl) (by omega) hC.hL rfl dL_law_1112 ?_
    refine lw_m (s1 := S9) (t1 := s9) (Wn := (LCh cy a S9 S9)) hC (c_X8_isWarmer_no1 l G cy a.am a.aS a.aBf a.aAs a.aSv a.aPa a.aOu a.aTx a.aCo s9.ct s9.nb s9.LN ((s9.x0).1) s9.CM s9.hs s9.th (bI (s9.x0).2) s9.ep s9.fc s9.σ (xs (4 * q + 1)) (xs (4 * q + 2)) hI.1.1 hF) (cwV 2 hC.S9.2.2.2.2 gL_law_X8_isWarmer rfl rfl rfl (by decide +kernel) ⟨Nat.le_of_ble_eq_true rfl, Nat.le_of_ble_eq_true rfl⟩) [15, 16] rfl (by decide) (SameR.cons (SameR.cons SameR.nil)) (by subst eS; rfl) hP hD hS rfl hl.1 rfl (Nat.le_of_ble_eq_true rfl) ⟨hc1, hs1⟩ dL_law_1113 (fun H locs hP hD hS => ?_)
    refine lv_istore (lv' := [(7, .int 0), (6, .int 1), (5, .int (nI (4 * q))), (4, .ref a.oD), (3, .ref a.oA), (2, .ref a.am), (1, .ref a.aX), (0, .ref b)]) hx hb dL_law_1116 hl (by decide) rfl (fun ls hl => ?_)
    refine lv_aload_n hx hb dL_law_1118 rfl (lv_at hl 5 rfl) ?_
    refine lw_thrown (s1 := S9) (t1 := S9) (k := 1) hC hP (by subst eS; rfl) hl.1 (Nat.le_of_ble_eq_true rfl) ⟨hc1, hs1⟩ dL_law_1119 ?_
    refine lv_iload hx hb dL_law_1122 (lv_at hl 1 rfl) ?_
    refine lv_icmp_eq (tgt := 1129) hx hb dL_law_1124 (by decide) (fun c_1124 => ?_) (fun c_1124 => ?_)
    rotate_left
    · exact absurd c_1124 (by decide)
    refine lv_iload hx hb dL_law_1129 (lv_at hl 1 rfl) ?_
    refine lv_if_ne (tgt := 1153) hx hb dL_law_1131 (by decide) (fun c_1131 => ?_) (fun c_1131 => ?_)
    rotate_left
    · exact absurd c_1131 (by decide)
    refine lv_goto (tgt := 2890) hx hb dL_law_1153 (by decide) ?_
    exact kk S9 H locs ls (LI.of (LI.mono hI (by omega)) (by subst eS; rfl) (by subst eS; rfl) (by subst eS; rfl) (by subst eS; rfl) (by subst eS; rfl) (by subst eS; rfl) (by subst eS; rfl) (by subst eS; rfl) (by subst eS; rfl) (by subst eS; rfl) (by subst eS; rfl) (by subst eS; rfl) (by subst eS; rfl) (by subst eS; rfl) (by subst eS; rfl)) hP hD hS (lv_sub hl [2, 3, 4, 5, 6, 7] rfl)

set_option maxRecDepth 100000 in
set_option maxHeartbeats 4000000 in
theorem case_14 {p : Program} {l : Launch} {e : Env} {s : State} {m : MethodId} {below : List Frame} {meth : Method} {cq : Code} {G : va_G} {cy : Nat → ClassId} {kS vS : Nat → Nat} {A : Nat → Prop} {a : LA} {b L q : Nat} {xs : Nat → Int32} {Q : State → Prop} {n0 cells slots : Nat} (hC : LC l p s m meth cq G cy kS vS A b L xs) (hq : 4 * q + 4 ≤ L) (hn0 : n0 < 1000000) (hc1 : cells + 1 ≤ room_1.cells) (hs1 : slots + 6 ≤ room_1.slots) (kk : LGo p l e s m below meth cq G cy A a b q Q (n0 + 300) (cells + 1) (slots + 6) 2890) : LGo p l e s m below meth cq G cy A a b q Q n0 cells slots 1156 := by
  intro s9 H locs ls hI hP hD hS hl
  obtain ⟨hx, hb, hml, hown, hts⟩ := id hC.S9
  have hL9 := hC.hL
  have hc0 : cells + 0 ≤ room_1.cells := Nat.le_of_succ_le hc1
  have hcn : cells ≤ room_1.cells := Nat.le_of_succ_le hc1
  have hs0 : slots + 0 ≤ room_1.slots := Nat.le_trans (Nat.le_add_right slots 6) hs1
  have hsn : slots ≤ room_1.slots := Nat.le_trans (Nat.le_add_right slots 6) hs1
  have ho := hI.1.1
  have hN0 := ho.1
  have hM0 := ho.2.1
  have hE0 := ho.2.2.1
  have hnx := hI.2.2.2.2.1
  have hct := hI.2.2.2.2.2.1
  by_cases hF : inI (xs (4 * q + 1)) (nI (nB s9.σ)) = true
  · obtain ⟨j, hj, e1⟩ := ix_of (by omega) hF
    by_cases hz : pB s9.σ j = 0
    · obtain ⟨S9, eS⟩ : ∃ z : LwS, z = (LwS.mk s9.σ s9.υ s9.ς s9.hs s9.ep s9.fc s9.ml 0 s9.nx s9.ct s9.nb s9.n s9.LN s9.CM s9.ρ s9.x s9.x0 s9.f s9.gk s9.g1 s9.g2 s9.g3 s9.fb s9.fB s9.fA s9.fV s9.fP s9.fO s9.g (fun _ => vL (pB s9.σ j)) s9.fd) := ⟨_, rfl⟩
      refine lv_aload_n hx hb dL_law_1156 rfl (lv_at hl 4 rfl) ?_
      refine lv_aload_n hx hb dL_law_1157 rfl (lv_at hl 5 rfl) ?_
      refine lv_iload hx hb dL_law_1158 (lv_at hl 0 rfl) ?_
      refine lv_iconst (v := 1) hx hb dL_law_1160 (by decide) ?_
      refine lv_iadd hx hb dL_law_1161 ?_
      refine m_sld (v := nI j) hx hb hC.hX hC.hbl hC.hbA hS (k := 4 * q + 1) (m_add rfl rfl) (by omega) hC.hL e1 dL_law_1162 ?_
      refine lv_aload_n hx hb dL_law_1163 rfl (lv_at hl 2 rfl) ?_
      refine lw_w (Wc := (LCh cy a s9 s9)) (Wn := (LCh cy a S9 s9)) hC (w_isPlugged_ok l G cy kS vS a.aX a.na a.tr a.sn s9.hs a.hi a.sc s9.ep s9.fc a.ob s9.σ j a.oA s9.fo hI.1.1 hj) (vx_cwSW 3 hC.S9.2.2.2.2 gL_law_L_isPlugged rfl rfl rfl (by decide +kernel) ⟨Nat.le_of_ble_eq_true rfl, Nat.le_of_ble_eq_true rfl⟩) [0, 1, 24] rfl (by decide) (SameL.cons SameA.rf (SameL.cons SameA.rf (SameL.cons SameA.one SameL.nil))) (by subst eS; rfl) hP hD hS rfl hl.1 rfl (Nat.le_of_ble_eq_true rfl) ⟨hc0, hs0⟩ dL_law_1164 (fun H locs hP hD hS => ?_)
      refine lv_istore (lv' := [(6, .int 0), (5, .int (nI (4 * q))), (4, .ref a.oD), (3, .ref a.oA), (2, .ref a.am), (1, .ref a.aX), (0, .ref b)]) hx hb dL_law_1167 hl (by decide) rfl (fun ls hl => ?_)
      refine lv_aload_n hx hb dL_law_1169 rfl (lv_at hl 4 rfl) ?_
      refine lv_aload_n hx hb dL_law_1170 rfl (lv_at hl 6 rfl) ?_
      refine lv_iload hx hb dL_law_1171 (lv_at hl 1 rfl) ?_
      refine lv_iconst (v := 1) hx hb dL_law_1173 (by decide) ?_
      refine lv_iadd hx hb dL_law_1174 ?_
      refine m_sld (v := nI j) hx hb hC.hX hC.hbl hC.hbA hS (k := 4 * q + 1) (m_add rfl rfl) (by omega) hC.hL e1 dL_law_1175 ?_
      refine lw_m (s1 := S9) (t1 := s9) (Wn := (LCh cy a S9 S9)) hC (c_X8_isPlugged_ok l G cy a.am a.aS a.aBf a.aAs a.aSv a.aPa a.aOu a.aTx a.aCo s9.ct s9.nb s9.LN ((s9.x0).1) s9.CM s9.hs s9.th (bI (s9.x0).2) s9.ep s9.fc s9.σ j hI.1.1 hj) (cwV 1 hC.S9.2.2.2.2 gL_law_X8_isPlugged rfl rfl rfl (by decide +kernel) ⟨Nat.le_of_ble_eq_true rfl, Nat.le_of_ble_eq_true rfl⟩) [15, 16] rfl (by decide) (SameR.cons (SameR.cons SameR.nil)) (by subst eS; rfl) hP hD hS rfl hl.1 rfl (Nat.le_of_ble_eq_true rfl) ⟨hcn, hsn⟩ dL_law_1176 (fun H locs hP hD hS => ?_)
      refine lv_istore (lv' := [(7, .int (if pB s9.σ j = 0 then 0 else 1)), (6, .int 0), (5, .int (nI (4 * q))), (4, .ref a.oD), (3, .ref a.oA), (2, .ref a.am), (1, .ref a.aX), (0, .ref b)]) hx hb dL_law_1179 hl (by decide) rfl (fun ls hl => ?_)
      refine lv_aload_n hx hb dL_law_1181 rfl (lv_at hl 5 rfl) ?_
      refine lw_thrown (s1 := S9) (t1 := S9) (k := 0) hC hP (by subst eS; rfl) hl.1 (Nat.le_of_ble_eq_true rfl) ⟨hcn, hsn⟩ dL_law_1182 ?_
      refine lv_iload hx hb dL_law_1185 (lv_at hl 1 rfl) ?_
      refine lv_icmp_eq (tgt := 1192) hx hb dL_law_1187 (by decide) (fun c_1187 => ?_) (fun c_1187 => ?_)
      rotate_left
      · exact absurd c_1187 (by decide)
      refine lv_iload hx hb dL_law_1192 (lv_at hl 1 rfl) ?_
      refine lv_if_ne (tgt := 1216) hx hb dL_law_1194 (by decide) (fun c_1194 => ?_) (fun c_1194 => ?_)
      · exact absurd c_1194 (by decide)
      refine lv_aload_n hx hb dL_law_1197 rfl (lv_at hl 4 rfl) ?_
      refine lv_iconst (v := 0) hx hb dL_law_1198 (by decide) ?_
      refine lw_ldL (s1 := S9) (t1 := S9) (x := vL (pB s9.σ j)) hC hP (by subst eS; rfl) dL_law_1199 ?_
      refine lv_iload hx hb dL_law_1200 (lv_at hl 0 rfl) ?_
      refine lv_if_eq (tgt := 1209) hx hb dL_law_1202 (by decide) (fun c_1202 => ?_) (fun c_1202 => ?_)
      rotate_left
      · exact absurd (if_pos hz) c_1202
      refine lv_lconst (v := 0) hx hb dL_law_1209 (by decide) ?_
      refine m_lcmp0 hx hb (if_pos hz) dL_law_1210 ?_
      refine lv_if_eq (tgt := 1216) hx hb dL_law_1211 (by decide) (fun c_1211 => ?_) (fun c_1211 => ?_)
      rotate_left
      · exact absurd c_1211 (by decide)
      refine lv_goto (tgt := 2890) hx hb dL_law_1216 (by decide) ?_
      refine W.widen (k := cells + 1) (n := slots + 6) (by omega) (by omega) ?_
      exact kk S9 H locs ls (LI.of (LI.mono hI (by omega)) (by subst eS; rfl) (by subst eS; rfl) (by subst eS; rfl) (by subst eS; rfl) (by subst eS; rfl) (by subst eS; rfl) (by subst eS; rfl) (by subst eS; rfl) (by subst eS; rfl) (by subst eS; rfl) (by subst eS; rfl) (by subst eS; rfl) (by subst eS; rfl) (by subst eS; rfl) (by subst eS; rfl)) hP hD hS (lv_sub hl [2, 3, 4, 5, 6, 7] rfl)
    · obtain ⟨S9, eS⟩ : ∃ z : LwS, z = (LwS.mk s9.σ s9.υ s9.ς s9.hs s9.ep s9.fc s9.ml 0 s9.nx s9.ct s9.nb s9.n s9.LN s9.CM s9.ρ s9.x s9.x0 s9.f s9.gk s9.g1 s9.g2 s9.g3 s9.fb s9.fB s9.fA s9.fV s9.fP s9.fO s9.g (fun _ => vL (pB s9.σ j)) s9.fd) := ⟨_, rfl⟩
      refine lv_aload_n hx hb dL_law_1156 rfl (lv_at hl 4 rfl) ?_
      refine lv_aload_n hx hb dL_law_1157 rfl (lv_at hl 5 rfl) ?_
      refine lv_iload hx hb dL_law_1158 (lv_at hl 0 rfl) ?_
      refine lv_iconst (v := 1) hx hb dL_law_1160 (by decide) ?_
      refine lv_iadd hx hb dL_law_1161 ?_
      refine m_sld (v := nI j) hx hb hC.hX hC.hbl hC.hbA hS (k := 4 * q + 1) (m_add rfl rfl) (by omega) hC.hL e1 dL_law_1162 ?_
      refine lv_aload_n hx hb dL_law_1163 rfl (lv_at hl 2 rfl) ?_
      refine lw_w (Wc := (LCh cy a s9 s9)) (Wn := (LCh cy a S9 s9)) hC (w_isPlugged_ok l G cy kS vS a.aX a.na a.tr a.sn s9.hs a.hi a.sc s9.ep s9.fc a.ob s9.σ j a.oA s9.fo hI.1.1 hj) (vx_cwSW 3 hC.S9.2.2.2.2 gL_law_L_isPlugged rfl rfl rfl (by decide +kernel) ⟨Nat.le_of_ble_eq_true rfl, Nat.le_of_ble_eq_true rfl⟩) [0, 1, 24] rfl (by decide) (SameL.cons SameA.rf (SameL.cons SameA.rf (SameL.cons SameA.one SameL.nil))) (by subst eS; rfl) hP hD hS rfl hl.1 rfl (Nat.le_of_ble_eq_true rfl) ⟨hc0, hs0⟩ dL_law_1164 (fun H locs hP hD hS => ?_)
      refine lv_istore (lv' := [(6, .int 0), (5, .int (nI (4 * q))), (4, .ref a.oD), (3, .ref a.oA), (2, .ref a.am), (1, .ref a.aX), (0, .ref b)]) hx hb dL_law_1167 hl (by decide) rfl (fun ls hl => ?_)
      refine lv_aload_n hx hb dL_law_1169 rfl (lv_at hl 4 rfl) ?_
      refine lv_aload_n hx hb dL_law_1170 rfl (lv_at hl 6 rfl) ?_
      refine lv_iload hx hb dL_law_1171 (lv_at hl 1 rfl) ?_
      refine lv_iconst (v := 1) hx hb dL_law_1173 (by decide) ?_
      refine lv_iadd hx hb dL_law_1174 ?_
      refine m_sld (v := nI j) hx hb hC.hX hC.hbl hC.hbA hS (k := 4 * q + 1) (m_add rfl rfl) (by omega) hC.hL e1 dL_law_1175 ?_
      refine lw_m (s1 := S9) (t1 := s9) (Wn := (LCh cy a S9 S9)) hC (c_X8_isPlugged_ok l G cy a.am a.aS a.aBf a.aAs a.aSv a.aPa a.aOu a.aTx a.aCo s9.ct s9.nb s9.LN ((s9.x0).1) s9.CM s9.hs s9.th (bI (s9.x0).2) s9.ep s9.fc s9.σ j hI.1.1 hj) (cwV 1 hC.S9.2.2.2.2 gL_law_X8_isPlugged rfl rfl rfl (by decide +kernel) ⟨Nat.le_of_ble_eq_true rfl, Nat.le_of_ble_eq_true rfl⟩) [15, 16] rfl (by decide) (SameR.cons (SameR.cons SameR.nil)) (by subst eS; rfl) hP hD hS rfl hl.1 rfl (Nat.le_of_ble_eq_true rfl) ⟨hcn, hsn⟩ dL_law_1176 (fun H locs hP hD hS => ?_)
      refine lv_istore (lv' := [(7, .int (if pB s9.σ j = 0 then 0 else 1)), (6, .int 0), (5, .int (nI (4 * q))), (4, .ref a.oD), (3, .ref a.oA), (2, .ref a.am), (1, .ref a.aX), (0, .ref b)]) hx hb dL_law_1179 hl (by decide) rfl (fun ls hl => ?_)
      refine lv_aload_n hx hb dL_law_1181 rfl (lv_at hl 5 rfl) ?_
      refine lw_thrown (s1 := S9) (t1 := S9) (k := 0) hC hP (by subst eS; rfl) hl.1 (Nat.le_of_ble_eq_true rfl) ⟨hcn, hsn⟩ dL_law_1182 ?_
      refine lv_iload hx hb dL_law_1185 (lv_at hl 1 rfl) ?_
      refine lv_icmp_eq (tgt := 1192) hx hb dL_law_1187 (by decide) (fun c_1187 => ?_) (fun c_1187 => ?_)
      rotate_left
      · exact absurd c_1187 (by decide)
      refine lv_iload hx hb dL_law_1192 (lv_at hl 1 rfl) ?_
      refine lv_if_ne (tgt := 1216) hx hb dL_law_1194 (by decide) (fun c_1194 => ?_) (fun c_1194 => ?_)
      · exact absurd c_1194 (by decide)
      refine lv_aload_n hx hb dL_law_1197 rfl (lv_at hl 4 rfl) ?_
      refine lv_iconst (v := 0) hx hb dL_law_1198 (by decide) ?_
      refine lw_ldL (s1 := S9) (t1 := S9) (x := vL (pB s9.σ j)) hC hP (by subst eS; rfl) dL_law_1199 ?_
      refine lv_iload hx hb dL_law_1200 (lv_at hl 0 rfl) ?_
      refine lv_if_eq (tgt := 1209) hx hb dL_law_1202 (by decide) (fun c_1202 => ?_) (fun c_1202 => ?_)
      · exact absurd c_1202 (by rw [if_neg hz]; decide)
      refine lv_lconst (v := 1) hx hb dL_law_1205 (by decide) ?_
      refine lv_goto (tgt := 1210) hx hb dL_law_1206 (by decide) ?_
      refine m_lcmp0 hx hb (if_neg hz) dL_law_1210 ?_
      refine lv_if_eq (tgt := 1216) hx hb dL_law_1211 (by decide) (fun c_1211 => ?_) (fun c_1211 => ?_)
      rotate_left
      · exact absurd c_1211 (by decide)
      refine lv_goto (tgt := 2890) hx hb dL_law_1216 (by decide) ?_
      refine W.widen (k := cells + 1) (n := slots + 6) (by omega) (by omega) ?_
      exact kk S9 H locs ls (LI.of (LI.mono hI (by omega)) (by subst eS; rfl) (by subst eS; rfl) (by subst eS; rfl) (by subst eS; rfl) (by subst eS; rfl) (by subst eS; rfl) (by subst eS; rfl) (by subst eS; rfl) (by subst eS; rfl) (by subst eS; rfl) (by subst eS; rfl) (by subst eS; rfl) (by subst eS; rfl) (by subst eS; rfl) (by subst eS; rfl)) hP hD hS (lv_sub hl [2, 3, 4, 5, 6, 7] rfl)
  · obtain ⟨S9, eS⟩ : ∃ z : LwS, z = (LwS.mk s9.σ s9.υ s9.ς s9.hs s9.ep s9.fc s9.ml 1 s9.nx s9.ct s9.nb s9.n s9.LN s9.CM s9.ρ s9.x s9.x0 s9.f s9.gk s9.g1 s9.g2 s9.g3 s9.fb s9.fB s9.fA s9.fV s9.fP s9.fO s9.g s9.fo s9.fd) := ⟨_, rfl⟩
    refine lv_aload_n hx hb dL_law_1156 rfl (lv_at hl 4 rfl) ?_
    refine lv_aload_n hx hb dL_law_1157 rfl (lv_at hl 5 rfl) ?_
    refine lv_iload hx hb dL_law_1158 (lv_at hl 0 rfl) ?_
    refine lv_iconst (v := 1) hx hb dL_law_1160 (by decide) ?_
    refine lv_iadd hx hb dL_law_1161 ?_
    refine m_sld (v := xs (4 * q + 1)) hx hb hC.hX hC.hbl hC.hbA hS (k := 4 * q + 1) (m_add rfl rfl) (by omega) hC.hL rfl dL_law_1162 ?_
    refine lv_aload_n hx hb dL_law_1163 rfl (lv_at hl 2 rfl) ?_
    refine lw_w (Wc := (LCh cy a s9 s9)) (Wn := (LCh cy a S9 s9)) hC (w_isPlugged_1 l G cy kS vS a.aX a.na a.tr a.sn s9.hs a.hi a.sc s9.ep s9.fc a.ob s9.σ (xs (4 * q + 1)) a.oA s9.fo hC.hl9 hI.1.1 hF) (vx_cwSW 3 hC.S9.2.2.2.2 gL_law_L_isPlugged rfl rfl rfl (by decide +kernel) ⟨Nat.le_of_ble_eq_true rfl, Nat.le_of_ble_eq_true rfl⟩) [0, 1, 24] rfl (by decide) (SameL.cons SameA.rf (SameL.cons SameA.rf (SameL.cons SameA.rf SameL.nil))) (by subst eS; rfl) hP hD hS rfl hl.1 rfl (Nat.le_of_ble_eq_true rfl) ⟨hc1, hs1⟩ dL_law_1164 (fun H locs hP hD hS => ?_)
    refine lv_istore (lv' := [(6, .int 1), (5, .int (nI (4 * q))), (4, .ref a.oD), (3, .ref a.oA), (2, .ref a.am), (1, .ref a.aX), (0, .ref b)]) hx hb dL_law_1167 hl (by decide) rfl (fun ls hl => ?_)
    refine lv_aload_n hx hb dL_law_1169 rfl (lv_at hl 4 rfl) ?_
    refine lv_aload_n hx hb dL_law_1170 rfl (lv_at hl 6 rfl) ?_
    refine lv_iload hx hb dL_law_1171 (lv_at hl 1 rfl) ?_
    refine lv_iconst (v := 1) hx hb dL_law_1173 (by decide) ?_
    refine lv_iadd hx hb dL_law_1174 ?_
    refine m_sld (v := xs (4 * q + 1)) hx hb hC.hX hC.hbl hC.hbA hS (k := 4 * q + 1) (m_add rfl rfl) (by omega) hC.hL rfl dL_law_1175 ?_
    refine lw_m (s1 := S9) (t1 := s9) (Wn := (LCh cy a S9 S9)) hC (c_X8_isPlugged_no l G cy a.am a.aS a.aBf a.aAs a.aSv a.aPa a.aOu a.aTx a.aCo s9.ct s9.nb s9.LN ((s9.x0).1) s9.CM s9.hs s9.th (bI (s9.x0).2) s9.ep s9.fc s9.σ (xs (4 * q + 1)) hI.1.1 hF) (cwV 1 hC.S9.2.2.2.2 gL_law_X8_isPlugged rfl rfl rfl (by decide +kernel) ⟨Nat.le_of_ble_eq_true rfl, Nat.le_of_ble_eq_true rfl⟩) [15, 16] rfl (by decide) (SameR.cons (SameR.cons SameR.nil)) (by subst eS; rfl) hP hD hS rfl hl.1 rfl (Nat.le_of_ble_eq_true rfl) ⟨hc1, hs1⟩ dL_law_1176 (fun H locs hP hD hS => ?_)
    refine lv_istore (lv' := [(7, .int 0), (6, .int 1), (5, .int (nI (4 * q))), (4, .ref a.oD), (3, .ref a.oA), (2, .ref a.am), (1, .ref a.aX), (0, .ref b)]) hx hb dL_law_1179 hl (by decide) rfl (fun ls hl => ?_)
    refine lv_aload_n hx hb dL_law_1181 rfl (lv_at hl 5 rfl) ?_
    refine lw_thrown (s1 := S9) (t1 := S9) (k := 1) hC hP (by subst eS; rfl) hl.1 (Nat.le_of_ble_eq_true rfl) ⟨hc1, hs1⟩ dL_law_1182 ?_
    refine lv_iload hx hb dL_law_1185 (lv_at hl 1 rfl) ?_
    refine lv_icmp_eq (tgt := 1192) hx hb dL_law_1187 (by decide) (fun c_1187 => ?_) (fun c_1187 => ?_)
    rotate_left
    · exact absurd c_1187 (by decide)
    refine lv_iload hx hb dL_law_1192 (lv_at hl 1 rfl) ?_
    refine lv_if_ne (tgt := 1216) hx hb dL_law_1194 (by decide) (fun c_1194 => ?_) (fun c_1194 => ?_)
    rotate_left
    · exact absurd c_1194 (by decide)
    refine lv_goto (tgt := 2890) hx hb dL_law_1216 (by decide) ?_
    exact kk S9 H locs ls (LI.of (LI.mono hI (by omega)) (by subst eS; rfl) (by subst eS; rfl) (by subst eS; rfl) (by subst eS; rfl) (by subst eS; rfl) (by subst eS; rfl) (by subst eS; rfl) (by subst eS; rfl) (by subst eS; rfl) (by subst eS; rfl) (by subst eS; rfl) (by subst eS; rfl) (by subst eS; rfl) (by subst eS; rfl) (by subst eS; rfl)) hP hD hS (lv_sub hl [2, 3, 4, 5, 6, 7] rfl)

set_option maxRecDepth 100000 in
set_option maxHeartbeats 4000000 in
theorem case_15 {p : Program} {l : Launch} {e : Env} {s : State} {m : MethodId} {below : List Frame} {meth : Method} {cq : Code} {G : va_G} {cy : Nat → ClassId} {kS vS : Nat → Nat} {A : Nat → Prop} {a : LA} {b L q : Nat} {xs : Nat → Int32} {Q : State → Prop} {n0 cells slots : Nat} (hC : LC l p s m meth cq G cy kS vS A b L xs) (hq : 4 * q + 4 ≤ L) (hn0 : n0 < 1000000) (hc1 : cells + 1 ≤ room_1.cells) (hs1 : slots + 6 ≤ room_1.slots) (kk : LGo p l e s m below meth cq G cy A a b q Q (n0 + 300) (cells + 1) (slots + 6) 2890) : LGo p l e s m below meth cq G cy A a b q Q n0 cells slots 1219 := by
  intro s9 H locs ls hI hP hD hS hl
  obtain ⟨hx, hb, hml, hown, hts⟩ := id hC.S9
  have hL9 := hC.hL
  have hc0 : cells + 0 ≤ room_1.cells := Nat.le_of_succ_le hc1
  have hcn : cells ≤ room_1.cells := Nat.le_of_succ_le hc1
  have hs0 : slots + 0 ≤ room_1.slots := Nat.le_trans (Nat.le_add_right slots 6) hs1
  have hsn : slots ≤ room_1.slots := Nat.le_trans (Nat.le_add_right slots 6) hs1
  have ho := hI.1.1
  have hN0 := ho.1
  have hM0 := ho.2.1
  have hE0 := ho.2.2.1
  have hnx := hI.2.2.2.2.1
  have hct := hI.2.2.2.2.2.1
  by_cases hF : inI (xs (4 * q + 1)) (nI (nB s9.σ)) = true
  · obtain ⟨j, hj, e1⟩ := ix_of (by omega) hF
    have hF2 : inI (nI j) (nI (nB s9.σ)) = true := by rw [← e1]; exact hF
    obtain ⟨S9, eS⟩ : ∃ z : LwS, z = (LwS.mk s9.σ s9.υ s9.ς s9.hs s9.ep s9.fc s9.ml 0 s9.nx s9.ct s9.nb s9.n s9.LN s9.CM s9.ρ s9.x s9.x0 s9.f s9.gk s9.g1 s9.g2 s9.g3 s9.fb s9.fB s9.fA s9.fV s9.fP s9.fO s9.g (fun _ => (atF (fun j => rkN (vB s9.σ) (hB s9.σ) j (nB s9.σ)) (nI j) 0 (nB s9.σ)).toInt64) s9.fd) := ⟨_, rfl⟩
    refine lv_aload_n hx hb dL_law_1219 rfl (lv_at hl 4 rfl) ?_
    refine lv_aload_n hx hb dL_law_1220 rfl (lv_at hl 5 rfl) ?_
    refine lv_iload hx hb dL_law_1221 (lv_at hl 0 rfl) ?_
    refine lv_iconst (v := 1) hx hb dL_law_1223 (by decide) ?_
    refine lv_iadd hx hb dL_law_1224 ?_
    refine m_sld (v := nI j) hx hb hC.hX hC.hbl hC.hbA hS (k := 4 * q + 1) (m_add rfl rfl) (by omega) hC.hL e1 dL_law_1225 ?_
    refine lv_aload_n hx hb dL_law_1226 rfl (lv_at hl 2 rfl) ?_
    refine lw_w (Wc := (LCh cy a s9 s9)) (Wn := (LCh cy a S9 s9)) hC (w_bathByTemperature_ok l G cy kS vS a.aX a.na a.tr a.sn s9.hs a.hi a.sc s9.ep s9.fc a.ob s9.σ j a.oA s9.fo hI.1.1 hj) (vx_cwSW 3 hC.S9.2.2.2.2 gL_law_L_bathByTemperature rfl rfl rfl (by decide +kernel) ⟨Nat.le_of_ble_eq_true rfl, Nat.le_of_ble_eq_true rfl⟩) [0, 1, 24] rfl (by decide) (SameL.cons SameA.rf (SameL.cons SameA.rf (SameL.cons SameA.one SameL.nil))) (by subst eS; rfl) hP hD hS rfl hl.1 rfl (Nat.le_of_ble_eq_true rfl) ⟨hc0, hs0⟩ dL_law_1227 (fun H locs hP hD hS => ?_)
    refine lv_istore (lv' := [(6, .int 0), (5, .int (nI (4 * q))), (4, .ref a.oD), (3, .ref a.oA), (2, .ref a.am), (1, .ref a.aX), (0, .ref b)]) hx hb dL_law_1230 hl (by decide) rfl (fun ls hl => ?_)
    refine lv_aload_n hx hb dL_law_1232 rfl (lv_at hl 4 rfl) ?_
    refine lv_aload_n hx hb dL_law_1233 rfl (lv_at hl 6 rfl) ?_
    refine lv_iload hx hb dL_law_1234 (lv_at hl 1 rfl) ?_
    refine lv_iconst (v := 1) hx hb dL_law_1236 (by decide) ?_
    refine lv_iadd hx hb dL_law_1237 ?_
    refine m_sld (v := nI j) hx hb hC.hX hC.hbl hC.hbA hS (k := 4 * q + 1) (m_add rfl rfl) (by omega) hC.hL e1 dL_law_1238 ?_
    refine lw_m (s1 := S9) (t1 := s9) (Wn := (LCh cy a S9 S9)) hC (c_X8_bathByTemperature_ok l G cy a.am a.aS a.aBf a.aAs a.aSv a.aPa a.aOu a.aTx a.aCo s9.ct s9.nb s9.LN ((s9.x0).1) s9.CM s9.hs s9.th (bI (s9.x0).2) s9.ep s9.fc s9.σ (nI j) hI.1.1 hF2 hI.1.bd) (cwV 1 hC.S9.2.2.2.2 gL_law_X8_bathByTemperature rfl rfl rfl (by decide +kernel) ⟨Nat.le_of_ble_eq_true rfl, Nat.le_of_ble_eq_true rfl⟩) [15, 16] rfl (by decide) (SameR.cons (SameR.cons SameR.nil)) (by subst eS; rfl) hP hD hS rfl hl.1 rfl (Nat.le_of_ble_eq_true rfl) ⟨hcn, hsn⟩ dL_law_1239 (fun H locs hP hD hS => ?_)
    refine lv_istore (lv' := [(7, .int (lasF (fun b9 => rkN (vB s9.σ) (hB s9.σ) b9 (nB s9.σ)) (nI j) (nB s9.σ))), (6, .int 0), (5, .int (nI (4 * q))), (4, .ref a.oD), (3, .ref a.oA), (2, .ref a.am), (1, .ref a.aX), (0, .ref b)]) hx hb dL_law_1242 hl (by decide) rfl (fun ls hl => ?_)
    refine lv_aload_n hx hb dL_law_1244 rfl (lv_at hl 5 rfl) ?_
    refine lw_thrown (s1 := S9) (t1 := S9) (k := 0) hC hP (by subst eS; rfl) hl.1 (Nat.le_of_ble_eq_true rfl) ⟨hcn, hsn⟩ dL_law_1245 ?_
    refine lv_iload hx hb dL_law_1248 (lv_at hl 1 rfl) ?_
    refine lv_icmp_eq (tgt := 1255) hx hb dL_law_1250 (by decide) (fun c_1250 => ?_) (fun c_1250 => ?_)
    rotate_left
    · exact absurd c_1250 (by decide)
    refine lv_iload hx hb dL_law_1255 (lv_at hl 1 rfl) ?_
    refine lv_if_ne (tgt := 1272) hx hb dL_law_1257 (by decide) (fun c_1257 => ?_) (fun c_1257 => ?_)
    · exact absurd c_1257 (by decide)
    refine lv_aload_n hx hb dL_law_1260 rfl (lv_at hl 4 rfl) ?_
    refine lv_iconst (v := 0) hx hb dL_law_1261 (by decide) ?_
    refine lw_ldL (s1 := S9) (t1 := S9) (x := (atF (fun j => rkN (vB s9.σ) (hB s9.σ) j (nB s9.σ)) (nI j) 0 (nB s9.σ)).toInt64) hC hP (by subst eS; rfl) dL_law_1262 ?_
    refine lv_iload hx hb dL_law_1263 (lv_at hl 0 rfl) ?_
    refine lv_i2l hx hb dL_law_1265 rfl ?_
    refine m_lcmp0 hx hb (congrArg Int32.toInt64 (bath_rank hI.1.bd hN0 hj)) dL_law_1266 ?_
    refine lv_if_eq (tgt := 1272) hx hb dL_law_1267 (by decide) (fun c_1267 => ?_) (fun c_1267 => ?_)
    rotate_left
    · exact absurd c_1267 (by decide)
    refine lv_goto (tgt := 2890) hx hb dL_law_1272 (by decide) ?_
    refine W.widen (k := cells + 1) (n := slots + 6) (by omega) (by omega) ?_
    exact kk S9 H locs ls (LI.of (LI.mono hI (by omega)) (by subst eS; rfl) (by subst eS; rfl) (by subst eS; rfl) (by subst eS; rfl) (by subst eS; rfl) (by subst eS; rfl) (by subst eS; rfl) (by subst eS; rfl) (by subst eS; rfl) (by subst eS; rfl) (by subst eS; rfl) (by subst eS; rfl) (by subst eS; rfl) (by subst eS; rfl) (by subst eS; rfl)) hP hD hS (lv_sub hl [2, 3, 4, 5, 6, 7] rfl)
  · obtain ⟨S9, eS⟩ : ∃ z : LwS, z = (LwS.mk s9.σ s9.υ s9.ς s9.hs s9.ep s9.fc s9.ml 1 s9.nx s9.ct s9.nb s9.n s9.LN s9.CM s9.ρ s9.x s9.x0 s9.f s9.gk s9.g1 s9.g2 s9.g3 s9.fb s9.fB s9.fA s9.fV s9.fP s9.fO s9.g s9.fo s9.fd) := ⟨_, rfl⟩
    refine lv_aload_n hx hb dL_law_1219 rfl (lv_at hl 4 rfl) ?_
    refine lv_aload_n hx hb dL_law_1220 rfl (lv_at hl 5 rfl) ?_
    refine lv_iload hx hb dL_law_1221 (lv_at hl 0 rfl) ?_
    refine lv_iconst (v := 1) hx hb dL_law_1223 (by decide) ?_
    refine lv_iadd hx hb dL_law_1224 ?_
    refine m_sld (v := xs (4 * q + 1)) hx hb hC.hX hC.hbl hC.hbA hS (k := 4 * q + 1) (m_add rfl rfl) (by omega) hC.hL rfl dL_law_1225 ?_
    refine lv_aload_n hx hb dL_law_1226 rfl (lv_at hl 2 rfl) ?_
    refine lw_w (Wc := (LCh cy a s9 s9)) (Wn := (LCh cy a S9 s9)) hC (w_bathByTemperature_t l G cy kS vS a.aX a.na a.tr a.sn s9.hs a.hi a.sc s9.ep s9.fc a.ob s9.σ (xs (4 * q + 1)) a.oA s9.fo hC.hl9 hI.1.1 hF) (vx_cwSW 3 hC.S9.2.2.2.2 gL_law_L_bathByTemperature rfl rfl rfl (by decide +kernel) ⟨Nat.le_of_ble_eq_true rfl, Nat.le_of_ble_eq_true rfl⟩) [0, 1, 24] rfl (by decide) (SameL.cons SameA.rf (SameL.cons SameA.rf (SameL.cons SameA.rf SameL.nil))) (by subst eS; rfl) hP hD hS rfl hl.1 rfl (Nat.le_of_ble_eq_true rfl) ⟨hc1, hs1⟩ dL_law_1227 (fun H locs hP hD hS => ?_)
    refine lv_istore (lv' := [(6, .int 1), (5, .int (nI (4 * q))), (4, .ref a.oD), (3, .ref a.oA), (2, .ref a.am), (1, .ref a.aX), (0, .ref b)]) hx hb dL_law_1230 hl (by decide) rfl (fun ls hl => ?_)
    refine lv_aload_n hx hb dL_law_1232 rfl (lv_at hl 4 rfl) ?_
    refine lv_aload_n hx hb dL_law_1233 rfl (lv_at hl 6 rfl) ?_
    refine lv_iload hx hb dL_law_1234 (lv_at hl 1 rfl) ?_
    refine lv_iconst (v := 1) hx hb dL_law_1236 (by decide) ?_
    refine lv_iadd hx hb dL_law_1237 ?_
    refine m_sld (v := xs (4 * q + 1)) hx hb hC.hX hC.hbl hC.hbA hS (k := 4 * q + 1) (m_add rfl rfl) (by omega) hC.hL rfl dL_law_1238 ?_
    refine lw_m (s1 := S9) (t1 := s9) (Wn := (LCh cy a S9 S9)) hC (c_X8_bathByTemperature_no l G cy a.am a.aS a.aBf a.aAs a.aSv a.aPa a.aOu a.aTx a.aCo s9.ct s9.nb s9.LN ((s9.x0).1) s9.CM s9.hs s9.th (bI (s9.x0).2) s9.ep s9.fc s9.σ (xs (4 * q + 1)) hI.1.1 hF) (cwV 1 hC.S9.2.2.2.2 gL_law_X8_bathByTemperature rfl rfl rfl (by decide +kernel) ⟨Nat.le_of_ble_eq_true rfl, Nat.le_of_ble_eq_true rfl⟩) [15, 16] rfl (by decide) (SameR.cons (SameR.cons SameR.nil)) (by subst eS; rfl) hP hD hS rfl hl.1 rfl (Nat.le_of_ble_eq_true rfl) ⟨hc1, hs1⟩ dL_law_1239 (fun H locs hP hD hS => ?_)
    refine lv_istore (lv' := [(7, .int 0), (6, .int 1), (5, .int (nI (4 * q))), (4, .ref a.oD), (3, .ref a.oA), (2, .ref a.am), (1, .ref a.aX), (0, .ref b)]) hx hb dL_law_1242 hl (by decide) rfl (fun ls hl => ?_)
    refine lv_aload_n hx hb dL_law_1244 rfl (lv_at hl 5 rfl) ?_
    refine lw_thrown (s1 := S9) (t1 := S9) (k := 1) hC hP (by subst eS; rfl) hl.1 (Nat.le_of_ble_eq_true rfl) ⟨hc1, hs1⟩ dL_law_1245 ?_
    refine lv_iload hx hb dL_law_1248 (lv_at hl 1 rfl) ?_
    refine lv_icmp_eq (tgt := 1255) hx hb dL_law_1250 (by decide) (fun c_1250 => ?_) (fun c_1250 => ?_)
    rotate_left
    · exact absurd c_1250 (by decide)
    refine lv_iload hx hb dL_law_1255 (lv_at hl 1 rfl) ?_
    refine lv_if_ne (tgt := 1272) hx hb dL_law_1257 (by decide) (fun c_1257 => ?_) (fun c_1257 => ?_)
    rotate_left
    · exact absurd c_1257 (by decide)
    refine lv_goto (tgt := 2890) hx hb dL_law_1272 (by decide) ?_
    exact kk S9 H locs ls (LI.of (LI.mono hI (by omega)) (by subst eS; rfl) (by subst eS; rfl) (by subst eS; rfl) (by subst eS; rfl) (by subst eS; rfl) (by subst eS; rfl) (by subst eS; rfl) (by subst eS; rfl) (by subst eS; rfl) (by subst eS; rfl) (by subst eS; rfl) (by subst eS; rfl) (by subst eS; rfl) (by subst eS; rfl) (by subst eS; rfl)) hP hD hS (lv_sub hl [2, 3, 4, 5, 6, 7] rfl)

set_option maxRecDepth 100000 in
set_option maxHeartbeats 4000000 in
theorem case_16 {p : Program} {l : Launch} {e : Env} {s : State} {m : MethodId} {below : List Frame} {meth : Method} {cq : Code} {G : va_G} {cy : Nat → ClassId} {kS vS : Nat → Nat} {A : Nat → Prop} {a : LA} {b L q : Nat} {xs : Nat → Int32} {Q : State → Prop} {n0 cells slots : Nat} (hC : LC l p s m meth cq G cy kS vS A b L xs) (hq : 4 * q + 4 ≤ L) (hn0 : n0 < 1000000) (hc1 : cells + 1 ≤ room_1.cells) (hs1 : slots + 6 ≤ room_1.slots) (kk : LGo p l e s m below meth cq G cy A a b q Q (n0 + 300) (cells + 1) (slots + 6) 2890) : LGo p l e s m below meth cq G cy A a b q Q n0 cells slots 1275 := by
  intro s9 H locs ls hI hP hD hS hl
  obtain ⟨hx, hb, hml, hown, hts⟩ := id hC.S9
  have hL9 := hC.hL
  have hc0 : cells + 0 ≤ room_1.cells := Nat.le_of_succ_le hc1
  have hcn : cells ≤ room_1.cells := Nat.le_of_succ_le hc1
  have hs0 : slots + 0 ≤ room_1.slots := Nat.le_trans (Nat.le_add_right slots 6) hs1
  have hsn : slots ≤ room_1.slots := Nat.le_trans (Nat.le_add_right slots 6) hs1
  have ho := hI.1.1
  have hN0 := ho.1
  have hM0 := ho.2.1
  have hE0 := ho.2.2.1
  have hnx := hI.2.2.2.2.1
  have hct := hI.2.2.2.2.2.1
  by_cases hF : inI (xs (4 * q + 1)) (nI (nB s9.σ)) = true
  · obtain ⟨j, hj, e1⟩ := ix_of (by omega) hF
    by_cases ht : tapB (xs (4 * q + 2)) = true
    · by_cases hg : inR (xs (4 * q + 3)) 0 99 = true
      · by_cases hwt : wet (vB s9.σ) j = true
        · by_cases hR : atF (ltF (vB s9.σ j) (hB s9.σ j) (xs (4 * q + 2)) (xs (4 * q + 3))) 1 0 (101 - bx (vB s9.σ j)) = -1
          · obtain ⟨S9, eS⟩ : ∃ z : LwS, z = (LwS.mk s9.σ s9.υ s9.ς s9.hs s9.ep s9.fc s9.ml 4 s9.nx s9.ct s9.nb s9.n s9.LN s9.CM s9.ρ s9.x s9.x0 s9.f s9.gk s9.g1 s9.g2 s9.g3 s9.fb s9.fB s9.fA s9.fV s9.fP s9.fO s9.g s9.fo s9.fd) := ⟨_, rfl⟩
            refine lv_aload_n hx hb dL_law_1275 rfl (lv_at hl 4 rfl) ?_
            refine lv_aload_n hx hb dL_law_1276 rfl (lv_at hl 5 rfl) ?_
            refine lv_iload hx hb dL_law_1277 (lv_at hl 0 rfl) ?_
            refine lv_iconst (v := 1) hx hb dL_law_1279 (by decide) ?_
            refine lv_iadd hx hb dL_law_1280 ?_
            refine m_sld (v := nI j) hx hb hC.hX hC.hbl hC.hbA hS (k := 4 * q + 1) (m_add rfl rfl) (by omega) hC.hL e1 dL_law_1281 ?_
            refine lv_aload_n hx hb dL_law_1282 rfl (lv_at hl 5 rfl) ?_
            refine lv_iload hx hb dL_law_1283 (lv_at hl 0 rfl) ?_
            refine lv_iconst (v := 2) hx hb dL_law_1285 (by decide) ?_
            refine lv_iadd hx hb dL_law_1286 ?_
            refine m_sld (v := xs (4 * q + 2)) hx hb hC.hX hC.hbl hC.hbA hS (k := 4 * q + 2) (m_add rfl rfl) (by omega) hC.hL rfl dL_law_1287 ?_
            refine lv_aload_n hx hb dL_law_1288 rfl (lv_at hl 5 rfl) ?_
            refine lv_iload hx hb dL_law_1289 (lv_at hl 0 rfl) ?_
            refine lv_iconst (v := 3) hx hb dL_law_1291 (by decide) ?_
            refine lv_iadd hx hb dL_law_1292 ?_
            refine m_sld (v := xs (4 * q + 3)) hx hb hC.hX hC.hbl hC.hbA hS (k := 4 * q + 3) (m_add rfl rfl) (by omega) hC.hL rfl dL_law_1293 ?_
            refine lv_aload_n hx hb dL_law_1294 rfl (lv_at hl 2 rfl) ?_
            refine lw_w (Wc := (LCh cy a s9 s9)) (Wn := (LCh cy a S9 s9)) hC (w_litresToReach_4 l G cy kS vS a.aX a.na a.tr a.sn s9.hs a.hi a.sc s9.ep s9.fc a.ob s9.σ j (xs (4 * q + 2)) (xs (4 * q + 3)) (atF (ltF (vB s9.σ j) (hB s9.σ j) (xs (4 * q + 2)) (xs (4 * q + 3))) 1 0 (101 - bx (vB s9.σ j))) a.oA s9.fo hC.hl9 hI.1.1 hj hI.1.bd ht hg hwt rfl hR) (vx_cwSW 5 hC.S9.2.2.2.2 gL_law_L_litresToReach rfl rfl rfl (by decide +kernel) ⟨Nat.le_of_ble_eq_true rfl, Nat.le_of_ble_eq_true rfl⟩) [0, 1, 24] rfl (by decide) (SameL.cons SameA.rf (SameL.cons SameA.rf (SameL.cons SameA.rf SameL.nil))) (by subst eS; rfl) hP hD hS rfl hl.1 rfl (Nat.le_of_ble_eq_true rfl) ⟨hc1, hs1⟩ dL_law_1295 (fun H locs hP hD hS => ?_)
            refine lv_istore (lv' := [(6, .int 4), (5, .int (nI (4 * q))), (4, .ref a.oD), (3, .ref a.oA), (2, .ref a.am), (1, .ref a.aX), (0, .ref b)]) hx hb dL_law_1298 hl (by decide) rfl (fun ls hl => ?_)
            refine lv_aload_n hx hb dL_law_1300 rfl (lv_at hl 4 rfl) ?_
            refine lv_aload_n hx hb dL_law_1301 rfl (lv_at hl 6 rfl) ?_
            refine lv_iload hx hb dL_law_1302 (lv_at hl 1 rfl) ?_
            refine lv_iconst (v := 1) hx hb dL_law_1304 (by decide) ?_
            refine lv_iadd hx hb dL_law_1305 ?_
            refine m_sld (v := nI j) hx hb hC.hX hC.hbl hC.hbA hS (k := 4 * q + 1) (m_add rfl rfl) (by omega) hC.hL e1 dL_law_1306 ?_
            refine lv_aload_n hx hb dL_law_1307 rfl (lv_at hl 6 rfl) ?_
            refine lv_iload hx hb dL_law_1308 (lv_at hl 1 rfl) ?_
            refine lv_iconst (v := 2) hx hb dL_law_1310 (by decide) ?_
            refine lv_iadd hx hb dL_law_1311 ?_
            refine m_sld (v := xs (4 * q + 2)) hx hb hC.hX hC.hbl hC.hbA hS (k := 4 * q + 2) (m_add rfl rfl) (by omega) hC.hL rfl dL_law_1312 ?_
            refine lv_aload_n hx hb dL_law_1313 rfl (lv_at hl 6 rfl) ?_
            refine lv_iload hx hb dL_law_1314 (lv_at hl 1 rfl) ?_
            refine lv_iconst (v := 3) hx hb dL_law_1316 (by decide) ?_
            refine lv_iadd hx hb dL_law_1317 ?_
            refine m_sld (v := xs (4 * q + 3)) hx hb hC.hX hC.hbl hC.hbA hS (k := 4 * q + 3) (m_add rfl rfl) (by omega) hC.hL rfl dL_law_1318 ?_
            refine lw_m (s1 := S9) (t1 := s9) (Wn := (LCh cy a S9 S9)) hC (c_X8_litresToReach_no4 l G cy a.am a.aS a.aBf a.aAs a.aSv a.aPa a.aOu a.aTx a.aCo s9.ct s9.nb s9.LN ((s9.x0).1) s9.CM s9.hs s9.th (bI (s9.x0).2) s9.ep s9.fc s9.σ j (xs (4 * q + 2)) (xs (4 * q + 3)) hI.1.1 hj hI.1.bd ht hg hwt hR) (cwV 3 hC.S9.2.2.2.2 gL_law_X8_litresToReach rfl rfl rfl (by decide +kernel) ⟨Nat.le_of_ble_eq_true rfl, Nat.le_of_ble_eq_true rfl⟩) [15, 16] rfl (by decide) (SameR.cons (SameR.cons SameR.nil)) (by subst eS; rfl) hP hD hS rfl hl.1 rfl (Nat.le_of_ble_eq_true rfl) ⟨hc1, hs1⟩ dL_law_1319 (fun H locs hP hD hS => ?_)
            refine lv_istore (lv' := [(7, .int 0), (6, .int 4), (5, .int (nI (4 * q))), (4, .ref a.oD), (3, .ref a.oA), (2, .ref a.am), (1, .ref a.aX), (0, .ref b)]) hx hb dL_law_1322 hl (by decide) rfl (fun ls hl => ?_)
            refine lv_aload_n hx hb dL_law_1324 rfl (lv_at hl 5 rfl) ?_
            refine lw_thrown (s1 := S9) (t1 := S9) (k := 4) hC hP (by subst eS; rfl) hl.1 (Nat.le_of_ble_eq_true rfl) ⟨hc1, hs1⟩ dL_law_1325 ?_
            refine lv_iload hx hb dL_law_1328 (lv_at hl 1 rfl) ?_
            refine lv_icmp_eq (tgt := 1335) hx hb dL_law_1330 (by decide) (fun c_1330 => ?_) (fun c_1330 => ?_)
            rotate_left
            · exact absurd c_1330 (by decide)
            refine lv_iload hx hb dL_law_1335 (lv_at hl 1 rfl) ?_
            refine lv_if_ne (tgt := 1352) hx hb dL_law_1337 (by decide) (fun c_1337 => ?_) (fun c_1337 => ?_)
            rotate_left
            · exact absurd c_1337 (by decide)
            refine lv_goto (tgt := 2890) hx hb dL_law_1352 (by decide) ?_
            exact kk S9 H locs ls (LI.of (LI.mono hI (by omega)) (by subst eS; rfl) (by subst eS; rfl) (by subst eS; rfl) (by subst eS; rfl) (by subst eS; rfl) (by subst eS; rfl) (by subst eS; rfl) (by subst eS; rfl) (by subst eS; rfl) (by subst eS; rfl) (by subst eS; rfl) (by subst eS; rfl) (by subst eS; rfl) (by subst eS; rfl) (by subst eS; rfl)) hP hD hS (lv_sub hl [2, 3, 4, 5, 6, 7] rfl)
          · obtain ⟨S9, eS⟩ : ∃ z : LwS, z = (LwS.mk s9.σ s9.υ s9.ς s9.hs s9.ep s9.fc s9.ml 0 s9.nx s9.ct s9.nb s9.n s9.LN s9.CM s9.ρ s9.x s9.x0 s9.f s9.gk s9.g1 s9.g2 s9.g3 s9.fb s9.fB s9.fA s9.fV s9.fP s9.fO s9.g (fun _ => (atF (ltF (vB s9.σ j) (hB s9.σ j) (xs (4 * q + 2)) (xs (4 * q + 3))) 1 0 (101 - bx (vB s9.σ j))).toInt64) s9.fd) := ⟨_, rfl⟩
            refine lv_aload_n hx hb dL_law_1275 rfl (lv_at hl 4 rfl) ?_
            refine lv_aload_n hx hb dL_law_1276 rfl (lv_at hl 5 rfl) ?_
            refine lv_iload hx hb dL_law_1277 (lv_at hl 0 rfl) ?_
            refine lv_iconst (v := 1) hx hb dL_law_1279 (by decide) ?_
            refine lv_iadd hx hb dL_law_1280 ?_
            refine m_sld (v := nI j) hx hb hC.hX hC.hbl hC.hbA hS (k := 4 * q + 1) (m_add rfl rfl) (by omega) hC.hL e1 dL_law_1281 ?_
            refine lv_aload_n hx hb dL_law_1282 rfl (lv_at hl 5 rfl) ?_
            refine lv_iload hx hb dL_law_1283 (lv_at hl 0 rfl) ?_
            refine lv_iconst (v := 2) hx hb dL_law_1285 (by decide) ?_
            refine lv_iadd hx hb dL_law_1286 ?_
            refine m_sld (v := xs (4 * q + 2)) hx hb hC.hX hC.hbl hC.hbA hS (k := 4 * q + 2) (m_add rfl rfl) (by omega) hC.hL rfl dL_law_1287 ?_
            refine lv_aload_n hx hb dL_law_1288 rfl (lv_at hl 5 rfl) ?_
            refine lv_iload hx hb dL_law_1289 (lv_at hl 0 rfl) ?_
            refine lv_iconst (v := 3) hx hb dL_law_1291 (by decide) ?_
            refine lv_iadd hx hb dL_law_1292 ?_
            refine m_sld (v := xs (4 * q + 3)) hx hb hC.hX hC.hbl hC.hbA hS (k := 4 * q + 3) (m_add rfl rfl) (by omega) hC.hL rfl dL_law_1293 ?_
            refine lv_aload_n hx hb dL_law_1294 rfl (lv_at hl 2 rfl) ?_
            refine lw_w (Wc := (LCh cy a s9 s9)) (Wn := (LCh cy a S9 s9)) hC (w_litresToReach_ok l G cy kS vS a.aX a.na a.tr a.sn s9.hs a.hi a.sc s9.ep s9.fc a.ob s9.σ j (xs (4 * q + 2)) (xs (4 * q + 3)) (atF (ltF (vB s9.σ j) (hB s9.σ j) (xs (4 * q + 2)) (xs (4 * q + 3))) 1 0 (101 - bx (vB s9.σ j))) a.oA s9.fo hI.1.1 hj hI.1.bd ht hg hwt rfl hR) (vx_cwSW 5 hC.S9.2.2.2.2 gL_law_L_litresToReach rfl rfl rfl (by decide +kernel) ⟨Nat.le_of_ble_eq_true rfl, Nat.le_of_ble_eq_true rfl⟩) [0, 1, 24] rfl (by decide) (SameL.cons SameA.rf (SameL.cons SameA.rf (SameL.cons SameA.one SameL.nil))) (by subst eS; rfl) hP hD hS rfl hl.1 rfl (Nat.le_of_ble_eq_true rfl) ⟨hc0, hs0⟩ dL_law_1295 (fun H locs hP hD hS => ?_)
            refine lv_istore (lv' := [(6, .int 0), (5, .int (nI (4 * q))), (4, .ref a.oD), (3, .ref a.oA), (2, .ref a.am), (1, .ref a.aX), (0, .ref b)]) hx hb dL_law_1298 hl (by decide) rfl (fun ls hl => ?_)
            refine lv_aload_n hx hb dL_law_1300 rfl (lv_at hl 4 rfl) ?_
            refine lv_aload_n hx hb dL_law_1301 rfl (lv_at hl 6 rfl) ?_
            refine lv_iload hx hb dL_law_1302 (lv_at hl 1 rfl) ?_
            refine lv_iconst (v := 1) hx hb dL_law_1304 (by decide) ?_
            refine lv_iadd hx hb dL_law_1305 ?_
            refine m_sld (v := nI j) hx hb hC.hX hC.hbl hC.hbA hS (k := 4 * q + 1) (m_add rfl rfl) (by omega) hC.hL e1 dL_law_1306 ?_
            refine lv_aload_n hx hb dL_law_1307 rfl (lv_at hl 6 rfl) ?_
            refine lv_iload hx hb dL_law_1308 (lv_at hl 1 rfl) ?_
            refine lv_iconst (v := 2) hx hb dL_law_1310 (by decide) ?_
            refine lv_iadd hx hb dL_law_1311 ?_
            refine m_sld (v := xs (4 * q + 2)) hx hb hC.hX hC.hbl hC.hbA hS (k := 4 * q + 2) (m_add rfl rfl) (by omega) hC.hL rfl dL_law_1312 ?_
            refine lv_aload_n hx hb dL_law_1313 rfl (lv_at hl 6 rfl) ?_
            refine lv_iload hx hb dL_law_1314 (lv_at hl 1 rfl) ?_
            refine lv_iconst (v := 3) hx hb dL_law_1316 (by decide) ?_
            refine lv_iadd hx hb dL_law_1317 ?_
            refine m_sld (v := xs (4 * q + 3)) hx hb hC.hX hC.hbl hC.hbA hS (k := 4 * q + 3) (m_add rfl rfl) (by omega) hC.hL rfl dL_law_1318 ?_
            refine lw_m (s1 := S9) (t1 := s9) (Wn := (LCh cy a S9 S9)) hC (c_X8_litresToReach_ok l G cy a.am a.aS a.aBf a.aAs a.aSv a.aPa a.aOu a.aTx a.aCo s9.ct s9.nb s9.LN ((s9.x0).1) s9.CM s9.hs s9.th (bI (s9.x0).2) s9.ep s9.fc s9.σ j (xs (4 * q + 2)) (xs (4 * q + 3)) (atF (ltF (vB s9.σ j) (hB s9.σ j) (xs (4 * q + 2)) (xs (4 * q + 3))) 1 0 (101 - bx (vB s9.σ j))) hI.1.1 hj hI.1.bd ht hg hwt rfl hR) (cwV 3 hC.S9.2.2.2.2 gL_law_X8_litresToReach rfl rfl rfl (by decide +kernel) ⟨Nat.le_of_ble_eq_true rfl, Nat.le_of_ble_eq_true rfl⟩) [15, 16] rfl (by decide) (SameR.cons (SameR.cons SameR.nil)) (by subst eS; rfl) hP hD hS rfl hl.1 rfl (Nat.le_of_ble_eq_true rfl) ⟨hcn, hsn⟩ dL_law_1319 (fun H locs hP hD hS => ?_)
            refine lv_istore (lv' := [(7, .int (atF (ltF (vB s9.σ j) (hB s9.σ j) (xs (4 * q + 2)) (xs (4 * q + 3))) 1 0 (101 - bx (vB s9.σ j)))), (6, .int 0), (5, .int (nI (4 * q))), (4, .ref a.oD), (3, .ref a.oA), (2, .ref a.am), (1, .ref a.aX), (0, .ref b)]) hx hb dL_law_1322 hl (by decide) rfl (fun ls hl => ?_)
            refine lv_aload_n hx hb dL_law_1324 rfl (lv_at hl 5 rfl) ?_
            refine lw_thrown (s1 := S9) (t1 := S9) (k := 0) hC hP (by subst eS; rfl) hl.1 (Nat.le_of_ble_eq_true rfl) ⟨hcn, hsn⟩ dL_law_1325 ?_
            refine lv_iload hx hb dL_law_1328 (lv_at hl 1 rfl) ?_
            refine lv_icmp_eq (tgt := 1335) hx hb dL_law_1330 (by decide) (fun c_1330 => ?_) (fun c_1330 => ?_)
            rotate_left
            · exact absurd c_1330 (by decide)
            refine lv_iload hx hb dL_law_1335 (lv_at hl 1 rfl) ?_
            refine lv_if_ne (tgt := 1352) hx hb dL_law_1337 (by decide) (fun c_1337 => ?_) (fun c_1337 => ?_)
            · exact absurd c_1337 (by decide)
            refine lv_aload_n hx hb dL_law_1340 rfl (lv_at hl 4 rfl) ?_
            refine lv_iconst (v := 0) hx hb dL_law_1341 (by decide) ?_
            refine lw_ldL (s1 := S9) (t1 := S9) (x := (atF (ltF (vB s9.σ j) (hB s9.σ j) (xs (4 * q + 2)) (xs (4 * q + 3))) 1 0 (101 - bx (vB s9.σ j))).toInt64) hC hP (by subst eS; rfl) dL_law_1342 ?_
            refine lv_iload hx hb dL_law_1343 (lv_at hl 0 rfl) ?_
            refine lv_i2l hx hb dL_law_1345 rfl ?_
            refine m_lcmp0 hx hb rfl dL_law_1346 ?_
            refine lv_if_eq (tgt := 1352) hx hb dL_law_1347 (by decide) (fun c_1347 => ?_) (fun c_1347 => ?_)
            rotate_left
            · exact absurd c_1347 (by decide)
            refine lv_goto (tgt := 2890) hx hb dL_law_1352 (by decide) ?_
            refine W.widen (k := cells + 1) (n := slots + 6) (by omega) (by omega) ?_
            exact kk S9 H locs ls (LI.of (LI.mono hI (by omega)) (by subst eS; rfl) (by subst eS; rfl) (by subst eS; rfl) (by subst eS; rfl) (by subst eS; rfl) (by subst eS; rfl) (by subst eS; rfl) (by subst eS; rfl) (by subst eS; rfl) (by subst eS; rfl) (by subst eS; rfl) (by subst eS; rfl) (by subst eS; rfl) (by subst eS; rfl) (by subst eS; rfl)) hP hD hS (lv_sub hl [2, 3, 4, 5, 6, 7] rfl)
        · obtain ⟨S9, eS⟩ : ∃ z : LwS, z = (LwS.mk s9.σ s9.υ s9.ς s9.hs s9.ep s9.fc s9.ml 3 s9.nx s9.ct s9.nb s9.n s9.LN s9.CM s9.ρ s9.x s9.x0 s9.f s9.gk s9.g1 s9.g2 s9.g3 s9.fb s9.fB s9.fA s9.fV s9.fP s9.fO s9.g s9.fo s9.fd) := ⟨_, rfl⟩
          refine lv_aload_n hx hb dL_law_1275 rfl (lv_at hl 4 rfl) ?_
          refine lv_aload_n hx hb dL_law_1276 rfl (lv_at hl 5 rfl) ?_
          refine lv_iload hx hb dL_law_1277 (lv_at hl 0 rfl) ?_
          refine lv_iconst (v := 1) hx hb dL_law_1279 (by decide) ?_
          refine lv_iadd hx hb dL_law_1280 ?_
          refine m_sld (v := nI j) hx hb hC.hX hC.hbl hC.hbA hS (k := 4 * q + 1) (m_add rfl rfl) (by omega) hC.hL e1 dL_law_1281 ?_
          refine lv_aload_n hx hb dL_law_1282 rfl (lv_at hl 5 rfl) ?_
          refine lv_iload hx hb dL_law_1283 (lv_at hl 0 rfl) ?_
          refine lv_iconst (v := 2) hx hb dL_law_1285 (by decide) ?_
          refine lv_iadd hx hb dL_law_1286 ?_
          refine m_sld (v := xs (4 * q + 2)) hx hb hC.hX hC.hbl hC.hbA hS (k := 4 * q + 2) (m_add rfl rfl) (by omega) hC.hL rfl dL_law_1287 ?_
          refine lv_aload_n hx hb dL_law_1288 rfl (lv_at hl 5 rfl) ?_
          refine lv_iload hx hb dL_law_1289 (lv_at hl 0 rfl) ?_
          refine lv_iconst (v := 3) hx hb dL_law_1291 (by decide) ?_
          refine lv_iadd hx hb dL_law_1292 ?_
          refine m_sld (v := xs (4 * q + 3)) hx hb hC.hX hC.hbl hC.hbA hS (k := 4 * q + 3) (m_add rfl rfl) (by omega) hC.hL rfl dL_law_1293 ?_
          refine lv_aload_n hx hb dL_law_1294 rfl (lv_at hl 2 rfl) ?_
          refine lw_w (Wc := (LCh cy a s9 s9)) (Wn := (LCh cy a S9 s9)) hC (w_litresToReach_3 l G cy kS vS a.aX a.na a.tr a.sn s9.hs a.hi a.sc s9.ep s9.fc a.ob s9.σ j (xs (4 * q + 2)) (xs (4 * q + 3)) a.oA s9.fo hC.hl9 hI.1.1 hj ht hg hwt) (vx_cwSW 5 hC.S9.2.2.2.2 gL_law_L_litresToReach rfl rfl rfl (by decide +kernel) ⟨Nat.le_of_ble_eq_true rfl, Nat.le_of_ble_eq_true rfl⟩) [0, 1, 24] rfl (by decide) (SameL.cons SameA.rf (SameL.cons SameA.rf (SameL.cons SameA.rf SameL.nil))) (by subst eS; rfl) hP hD hS rfl hl.1 rfl (Nat.le_of_ble_eq_true rfl) ⟨hc1, hs1⟩ dL_law_1295 (fun H locs hP hD hS => ?_)
          refine lv_istore (lv' := [(6, .int 3), (5, .int (nI (4 * q))), (4, .ref a.oD), (3, .ref a.oA), (2, .ref a.am), (1, .ref a.aX), (0, .ref b)]) hx hb dL_law_1298 hl (by decide) rfl (fun ls hl => ?_)
          refine lv_aload_n hx hb dL_law_1300 rfl (lv_at hl 4 rfl) ?_
          refine lv_aload_n hx hb dL_law_1301 rfl (lv_at hl 6 rfl) ?_
          refine lv_iload hx hb dL_law_1302 (lv_at hl 1 rfl) ?_
          refine lv_iconst (v := 1) hx hb dL_law_1304 (by decide) ?_
          refine lv_iadd hx hb dL_law_1305 ?_
          refine m_sld (v := nI j) hx hb hC.hX hC.hbl hC.hbA hS (k := 4 * q + 1) (m_add rfl rfl) (by omega) hC.hL e1 dL_law_1306 ?_
          refine lv_aload_n hx hb dL_law_1307 rfl (lv_at hl 6 rfl) ?_
          refine lv_iload hx hb dL_law_1308 (lv_at hl 1 rfl) ?_
          refine lv_iconst (v := 2) hx hb dL_law_1310 (by decide) ?_
          refine lv_iadd hx hb dL_law_1311 ?_
          refine m_sld (v := xs (4 * q + 2)) hx hb hC.hX hC.hbl hC.hbA hS (k := 4 * q + 2) (m_add rfl rfl) (by omega) hC.hL rfl dL_law_1312 ?_
          refine lv_aload_n hx hb dL_law_1313 rfl (lv_at hl 6 rfl) ?_
          refine lv_iload hx hb dL_law_1314 (lv_at hl 1 rfl) ?_
          refine lv_iconst (v := 3) hx hb dL_law_1316 (by decide) ?_
          refine lv_iadd hx hb dL_law_1317 ?_
          refine m_sld (v := xs (4 * q + 3)) hx hb hC.hX hC.hbl hC.hbA hS (k := 4 * q + 3) (m_add rfl rfl) (by omega) hC.hL rfl dL_law_1318 ?_
          refine lw_m (s1 := S9) (t1 := s9) (Wn := (LCh cy a S9 S9)) hC (c_X8_litresToReach_no5 l G cy a.am a.aS a.aBf a.aAs a.aSv a.aPa a.aOu a.aTx a.aCo s9.ct s9.nb s9.LN ((s9.x0).1) s9.CM s9.hs s9.th (bI (s9.x0).2) s9.ep s9.fc s9.σ j (xs (4 * q + 2)) (xs (4 * q + 3)) hI.1.1 hj ht hg hwt) (cwV 3 hC.S9.2.2.2.2 gL_law_X8_litresToReach rfl rfl rfl (by decide +kernel) ⟨Nat.le_of_ble_eq_true rfl, Nat.le_of_ble_eq_true rfl⟩) [15, 16] rfl (by decide) (SameR.cons (SameR.cons SameR.nil)) (by subst eS; rfl) hP hD hS rfl hl.1 rfl (Nat.le_of_ble_eq_true rfl) ⟨hc1, hs1⟩ dL_law_1319 (fun H locs hP hD hS => ?_)
          refine lv_istore (lv' := [(7, .int 0), (6, .int 3), (5, .int (nI (4 * q))), (4, .ref a.oD), (3, .ref a.oA), (2, .ref a.am), (1, .ref a.aX), (0, .ref b)]) hx hb dL_law_1322 hl (by decide) rfl (fun ls hl => ?_)
          refine lv_aload_n hx hb dL_law_1324 rfl (lv_at hl 5 rfl) ?_
          refine lw_thrown (s1 := S9) (t1 := S9) (k := 3) hC hP (by subst eS; rfl) hl.1 (Nat.le_of_ble_eq_true rfl) ⟨hc1, hs1⟩ dL_law_1325 ?_
          refine lv_iload hx hb dL_law_1328 (lv_at hl 1 rfl) ?_
          refine lv_icmp_eq (tgt := 1335) hx hb dL_law_1330 (by decide) (fun c_1330 => ?_) (fun c_1330 => ?_)
          rotate_left
          · exact absurd c_1330 (by decide)
          refine lv_iload hx hb dL_law_1335 (lv_at hl 1 rfl) ?_
          refine lv_if_ne (tgt := 1352) hx hb dL_law_1337 (by decide) (fun c_1337 => ?_) (fun c_1337 => ?_)
          rotate_left
          · exact absurd c_1337 (by decide)
          refine lv_goto (tgt := 2890) hx hb dL_law_1352 (by decide) ?_
          exact kk S9 H locs ls (LI.of (LI.mono hI (by omega)) (by subst eS; rfl) (by subst eS; rfl) (by subst eS; rfl) (by subst eS; rfl) (by subst eS; rfl) (by subst eS; rfl) (by subst eS; rfl) (by subst eS; rfl) (by subst eS; rfl) (by subst eS; rfl) (by subst eS; rfl) (by subst eS; rfl) (by subst eS; rfl) (by subst eS; rfl) (by subst eS; rfl)) hP hD hS (lv_sub hl [2, 3, 4, 5, 6, 7] rfl)
      · obtain ⟨S9, eS⟩ : ∃ z : LwS, z = (LwS.mk s9.σ s9.υ s9.ς s9.hs s9.ep s9.fc s9.ml 2 s9.nx s9.ct s9.nb s9.n s9.LN s9.CM s9.ρ s9.x s9.x0 s9.f s9.gk s9.g1 s9.g2 s9.g3 s9.fb s9.fB s9.fA s9.fV s9.fP s9.fO s9.g s9.fo s9.fd) := ⟨_, rfl⟩
        refine lv_aload_n hx hb dL_law_1275 rfl (lv_at hl 4 rfl) ?_
        refine lv_aload_n hx hb dL_law_1276 rfl (lv_at hl 5 rfl) ?_
        refine lv_iload hx hb dL_law_1277 (lv_at hl 0 rfl) ?_
        refine lv_iconst (v := 1) hx hb dL_law_1279 (by decide) ?_
        refine lv_iadd hx hb dL_law_1280 ?_
        refine m_sld (v := nI j) hx hb hC.hX hC.hbl hC.hbA hS (k := 4 * q + 1) (m_add rfl rfl) (by omega) hC.hL e1 dL_law_1281 ?_
        refine lv_aload_n hx hb dL_law_1282 rfl (lv_at hl 5 rfl) ?_
        refine lv_iload hx hb dL_law_1283 (lv_at hl 0 rfl) ?_
        refine lv_iconst (v := 2) hx hb dL_law_1285 (by decide) ?_
        refine lv_iadd hx hb dL_law_1286 ?_
        refine m_sld (v := xs (4 * q + 2)) hx hb hC.hX hC.hbl hC.hbA hS (k := 4 * q + 2) (m_add rfl rfl) (by omega) hC.hL rfl dL_law_1287 ?_
        refine lv_aload_n hx hb dL_law_1288 rfl (lv_at hl 5 rfl) ?_
        refine lv_iload hx hb dL_law_1289 (lv_at hl 0 rfl) ?_
        refine lv_iconst (v := 3) hx hb dL_law_1291 (by decide) ?_
        refine lv_iadd hx hb dL_law_1292 ?_
        refine m_sld (v := xs (4 * q + 3)) hx hb hC.hX hC.hbl hC.hbA hS (k := 4 * q + 3) (m_add rfl rfl) (by omega) hC.hL rfl dL_law_1293 ?_
        refine lv_aload_n hx hb dL_law_1294 rfl (lv_at hl 2 rfl) ?_
        refine lw_w (Wc := (LCh cy a s9 s9)) (Wn := (LCh cy a S9 s9)) hC (w_litresToReach_2 l G cy kS vS a.aX a.na a.tr a.sn s9.hs a.hi a.sc s9.ep s9.fc a.ob s9.σ j (xs (4 * q + 2)) (xs (4 * q + 3)) a.oA s9.fo hC.hl9 hI.1.1 hj (fun z => hg z.2)) (vx_cwSW 5 hC.S9.2.2.2.2 gL_law_L_litresToReach rfl rfl rfl (by decide +kernel) ⟨Nat.le_of_ble_eq_true rfl, Nat.le_of_ble_eq_true rfl⟩) [0, 1, 24] rfl (by decide) (SameL.cons SameA.rf (SameL.cons SameA.rf (SameL.cons SameA.rf SameL.nil))) (by subst eS; rfl) hP hD hS rfl hl.1 rfl (Nat.le_of_ble_eq_true rfl) ⟨hc1, hs1⟩ dL_law_1295 (fun H locs hP hD hS => ?_)
        refine lv_istore (lv' := [(6, .int 2), (5, .int (nI (4 * q))), (4, .ref a.oD), (3, .ref a.oA), (2, .ref a.am), (1, .ref a.aX), (0, .ref b)]) hx hb dL_law_1298 hl (by decide) rfl (fun ls hl => ?_)
        refine lv_aload_n hx hb dL_law_1300 rfl (lv_at hl 4 rfl) ?_
        refine lv_aload_n hx hb dL_law_1301 rfl (lv_at hl 6 rfl) ?_
        refine lv_iload hx hb dL_law_1302 (lv_at hl 1 rfl) ?_
        refine lv_iconst (v := 1) hx hb dL_law_1304 (by decide) ?_
        refine lv_iadd hx hb dL_law_1305 ?_
        refine m_sld (v := nI j) hx hb hC.hX hC.hbl hC.hbA hS (k := 4 * q + 1) (m_add rfl rfl) (by omega) hC.hL e1 dL_law_1306 ?_
        refine lv_aload_n hx hb dL_law_1307 rfl (lv_at hl 6 rfl) ?_
        refine lv_iload hx hb dL_law_1308 (lv_at hl 1 rfl) ?_
        refine lv_iconst (v := 2) hx hb dL_law_1310 (by decide) ?_
        refine lv_iadd hx hb dL_law_1311 ?_
        refine m_sld (v := xs (4 * q + 2)) hx hb hC.hX hC.hbl hC.hbA hS (k := 4 * q + 2) (m_add rfl rfl) (by omega) hC.hL rfl dL_law_1312 ?_
        refine lv_aload_n hx hb dL_law_1313 rfl (lv_at hl 6 rfl) ?_
        refine lv_iload hx hb dL_law_1314 (lv_at hl 1 rfl) ?_
        refine lv_iconst (v := 3) hx hb dL_law_1316 (by decide) ?_
        refine lv_iadd hx hb dL_law_1317 ?_
        refine m_sld (v := xs (4 * q + 3)) hx hb hC.hX hC.hbl hC.hbA hS (k := 4 * q + 3) (m_add rfl rfl) (by omega) hC.hL rfl dL_law_1318 ?_
        refine lw_m (s1 := S9) (t1 := s9) (Wn := (LCh cy a S9 S9)) hC (c_X8_litresToReach_no3 l G cy a.am a.aS a.aBf a.aAs a.aSv a.aPa a.aOu a.aTx a.aCo s9.ct s9.nb s9.LN ((s9.x0).1) s9.CM s9.hs s9.th (bI (s9.x0).2) s9.ep s9.fc s9.σ j (xs (4 * q + 2)) (xs (4 * q + 3)) hI.1.1 hj ht hg) (cwV 3 hC.S9.2.2.2.2 gL_law_X8_litresToReach rfl rfl rfl (by decide +kernel) ⟨Nat.le_of_ble_eq_true rfl, Nat.le_of_ble_eq_true rfl⟩) [15, 16] rfl (by decide) (SameR.cons (SameR.cons SameR.nil)) (by subst eS; rfl) hP hD hS rfl hl.1 rfl (Nat.le_of_ble_eq_true rfl) ⟨hc1, hs1⟩ dL_law_1319 (fun H locs hP hD hS => ?_)
        refine lv_istore (lv' := [(7, .int 0), (6, .int 2), (5, .int (nI (4 * q))), (4, .ref a.oD), (3, .ref a.oA), (2, .ref a.am), (1, .ref a.aX), (0, .ref b)]) hx hb dL_law_1322 hl (by decide) rfl (fun ls hl => ?_)
        refine lv_aload_n hx hb dL_law_1324 rfl (lv_at hl 5 rfl) ?_
        refine lw_thrown (s1 := S9) (t1 := S9) (k := 2) hC hP (by subst eS; rfl) hl.1 (Nat.le_of_ble_eq_true rfl) ⟨hc1, hs1⟩ dL_law_1325 ?_
        refine lv_iload hx hb dL_law_1328 (lv_at hl 1 rfl) ?_
        refine lv_icmp_eq (tgt := 1335) hx hb dL_law_1330 (by decide) (fun c_1330 => ?_) (fun c_1330 => ?_)
        rotate_left
        · exact absurd c_1330 (by decide)
        refine lv_iload hx hb dL_law_1335 (lv_at hl 1 rfl) ?_
        refine lv_if_ne (tgt := 1352) hx hb dL_law_1337 (by decide) (fun c_1337 => ?_) (fun c_1337 => ?_)
        rotate_left
        · exact absurd c_1337 (by decide)
        refine lv_goto (tgt := 2890) hx hb dL_law_1352 (by decide) ?_
        exact kk S9 H locs ls (LI.of (LI.mono hI (by omega)) (by subst eS; rfl) (by subst eS; rfl) (by subst eS; rfl) (by subst eS; rfl) (by subst eS; rfl) (by subst eS; rfl) (by subst eS; rfl) (by subst eS; rfl) (by subst eS; rfl) (by subst eS; rfl) (by subst eS; rfl) (by subst eS; rfl) (by subst eS; rfl) (by subst eS; rfl) (by subst eS; rfl)) hP hD hS (lv_sub hl [2, 3, 4, 5, 6, 7] rfl)
    · obtain ⟨S9, eS⟩ : ∃ z : LwS, z = (LwS.mk s9.σ s9.υ s9.ς s9.hs s9.ep s9.fc s9.ml 2 s9.nx s9.ct s9.nb s9.n s9.LN s9.CM s9.ρ s9.x s9.x0 s9.f s9.gk s9.g1 s9.g2 s9.g3 s9.fb s9.fB s9.fA s9.fV s9.fP s9.fO s9.g s9.fo s9.fd) := ⟨_, rfl⟩
      refine lv_aload_n hx hb dL_law_1275 rfl (lv_at hl 4 rfl) ?_
      refine lv_aload_n hx hb dL_law_1276 rfl (lv_at hl 5 rfl) ?_
      refine lv_iload hx hb dL_law_1277 (lv_at hl 0 rfl) ?_
      refine lv_iconst (v := 1) hx hb dL_law_1279 (by decide) ?_
      refine lv_iadd hx hb dL_law_1280 ?_
      refine m_sld (v := nI j) hx hb hC.hX hC.hbl hC.hbA hS (k := 4 * q + 1) (m_add rfl rfl) (by omega) hC.hL e1 dL_law_1281 ?_
      refine lv_aload_n hx hb dL_law_1282 rfl (lv_at hl 5 rfl) ?_
      refine lv_iload hx hb dL_law_1283 (lv_at hl 0 rfl) ?_
      refine lv_iconst (v := 2) hx hb dL_law_1285 (by decide) ?_
      refine lv_iadd hx hb dL_law_1286 ?_
      refine m_sld (v := xs (4 * q + 2)) hx hb hC.hX hC.hbl hC.hbA hS (k := 4 * q + 2) (m_add rfl rfl) (by omega) hC.hL rfl dL_law_1287 ?_
      refine lv_aload_n hx hb dL_law_1288 rfl (lv_at hl 5 rfl) ?_
      refine lv_iload hx hb dL_law_1289 (lv_at hl 0 rfl) ?_
      refine lv_iconst (v := 3) hx hb dL_law_1291 (by decide) ?_
      refine lv_iadd hx hb dL_law_1292 ?_
      refine m_sld (v := xs (4 * q + 3)) hx hb hC.hX hC.hbl hC.hbA hS (k := 4 * q + 3) (m_add rfl rfl) (by omega) hC.hL rfl dL_law_1293 ?_
      refine lv_aload_n hx hb dL_law_1294 rfl (lv_at hl 2 rfl) ?_
      refine lw_w (Wc := (LCh cy a s9 s9)) (Wn := (LCh cy a S9 s9)) hC (w_litresToReach_2 l G cy kS vS a.aX a.na a.tr a.sn s9.hs a.hi a.sc s9.ep s9.fc a.ob s9.σ j (xs (4 * q + 2)) (xs (4 * q + 3)) a.oA s9.fo hC.hl9 hI.1.1 hj (fun z => ht z.1)) (vx_cwSW 5 hC.S9.2.2.2.2 gL_law_L_litresToReach rfl rfl rfl (by decide +kernel) ⟨Nat.le_of_ble_eq_true rfl, Nat.le_of_ble_eq_true rfl⟩) [0, 1, 24] rfl (by decide) (SameL.cons SameA.rf (SameL.cons SameA.rf (SameL.cons SameA.rf SameL.nil))) (by subst eS; rfl) hP hD hS rfl hl.1 rfl (Nat.le_of_ble_eq_true rfl) ⟨hc1, hs1⟩ dL_law_1295 (fun H locs hP hD hS => ?_)
      refine lv_istore (lv' := [(6, .int 2), (5, .int (nI (4 * q))), (4, .ref a.oD), (3, .ref a.oA), (2, .ref a.am), (1, .ref a.aX), (0, .ref b)]) hx hb dL_law_1298 hl (by decide) rfl (fun ls hl => ?_)
      refine lv_aload_n hx hb dL_law_1300 rfl (lv_at hl 4 rfl) ?_
      refine lv_aload_n hx hb dL_law_1301 rfl (lv_at hl 6 rfl) ?_
      refine lv_iload hx hb dL_law_1302 (lv_at hl 1 rfl) ?_
      refine lv_iconst (v := 1) hx hb dL_law_1304 (by decide) ?_
      refine lv_iadd hx hb dL_law_1305 ?_
      refine m_sld (v := nI j) hx hb hC.hX hC.hbl hC.hbA hS (k := 4 * q + 1) (m_add rfl rfl) (by omega) hC.hL e1 dL_law_1306 ?_
      refine lv_aload_n hx hb dL_law_1307 rfl (lv_at hl 6 rfl) ?_
      refine lv_iload hx hb dL_law_1308 (lv_at hl 1 rfl) ?_
      refine lv_iconst (v := 2) hx hb dL_law_1310 (by decide) ?_
      refine lv_iadd hx hb dL_law_1311 ?_
      refine m_sld (v := xs (4 * q + 2)) hx hb hC.hX hC.hbl hC.hbA hS (k := 4 * q + 2) (m_add rfl rfl) (by omega) hC.hL rfl dL_law_1312 ?_
      refine lv_aload_n hx hb dL_law_1313 rfl (lv_at hl 6 rfl) ?_
      refine lv_iload hx hb dL_law_1314 (lv_at hl 1 rfl) ?_
      refine lv_iconst (v := 3) hx hb dL_law_1316 (by decide) ?_
      refine lv_iadd hx hb dL_law_1317 ?_
      refine m_sld (v := xs (4 * q + 3)) hx hb hC.hX hC.hbl hC.hbA hS (k := 4 * q + 3) (m_add rfl rfl) (by omega) hC.hL rfl dL_law_1318 ?_
      refine lw_m (s1 := S9) (t1 := s9) (Wn := (LCh cy a S9 S9)) hC (c_X8_litresToReach_no2 l G cy a.am a.aS a.aBf a.aAs a.aSv a.aPa a.aOu a.aTx a.aCo s9.ct s9.nb s9.LN ((s9.x0).1) s9.CM s9.hs s9.th (bI (s9.x0).2) s9.ep s9.fc s9.σ j (xs (4 * q + 2)) (xs (4 * q + 3)) hI.1.1 hj ht) (cwV 3 hC.S9.2.2.2.2 gL_law_X8_litresToReach rfl rfl rfl (by decide +kernel) ⟨Nat.le_of_ble_eq_true rfl, Nat.le_of_ble_eq_true rfl⟩) [15, 16] rfl (by decide) (SameR.cons (SameR.cons SameR.nil)) (by subst eS; rfl) hP hD hS rfl hl.1 rfl (Nat.le_of_ble_eq_true rfl) ⟨hc1, hs1⟩ dL_law_1319 (fun H locs hP hD hS => ?_)
      refine lv_istore (lv' := [(7, .int 0), (6, .int 2), (5, .int (nI (4 * q))), (4, .ref a.oD), (3, .ref a.oA), (2, .ref a.am), (1, .ref a.aX), (0, .ref b)]) hx hb dL_law_1322 hl (by decide) rfl (fun ls hl => ?_)
      refine lv_aload_n hx hb dL_law_1324 rfl (lv_at hl 5 rfl) ?_
      refine lw_thrown (s1 := S9) (t1 := S9) (k := 2) hC hP (by subst eS; rfl) hl.1 (Nat.le_of_ble_eq_true rfl) ⟨hc1, hs1⟩ dL_law_1325 ?_
      refine lv_iload hx hb dL_law_1328 (lv_at hl 1 rfl) ?_
      refine lv_icmp_eq (tgt := 1335) hx hb dL_law_1330 (by decide) (fun c_1330 => ?_) (fun c_1330 => ?_)
      rotate_left
      · exact absurd c_1330 (by decide)
      refine lv_iload hx hb dL_law_1335 (lv_at hl 1 rfl) ?_
      refine lv_if_ne (tgt := 1352) hx hb dL_law_1337 (by decide) (fun c_1337 => ?_) (fun c_1337 => ?_)
      rotate_left
      · exact absurd c_1337 (by decide)
      refine lv_goto (tgt := 2890) hx hb dL_law_1352 (by decide) ?_
      exact kk S9 H locs ls (LI.of (LI.mono hI (by omega)) (by subst eS; rfl) (by subst eS; rfl) (by subst eS; rfl) (by subst eS; rfl) (by subst eS; rfl) (by subst eS; rfl) (by subst eS; rfl) (by subst eS; rfl) (by subst eS; rfl) (by subst eS; rfl) (by subst eS; rfl) (by subst eS; rfl) (by subst eS; rfl) (by subst eS; rfl) (by subst eS; rfl)) hP hD hS (lv_sub hl [2, 3, 4, 5, 6, 7] rfl)
  · obtain ⟨S9, eS⟩ : ∃ z : LwS, z = (LwS.mk s9.σ s9.υ s9.ς s9.hs s9.ep s9.fc s9.ml 1 s9.nx s9.ct s9.nb s9.n s9.LN s9.CM s9.ρ s9.x s9.x0 s9.f s9.gk s9.g1 s9.g2 s9.g3 s9.fb s9.fB s9.fA s9.fV s9.fP s9.fO s9.g s9.fo s9.fd) := ⟨_, rfl⟩
    refine lv_aload_n hx hb dL_law_1275 rfl (lv_at hl 4 rfl) ?_
    refine lv_aload_n hx hb dL_law_1276 rfl (lv_at hl 5 rfl) ?_
    refine lv_iload hx hb dL_law_1277 (lv_at hl 0 rfl) ?_
    refine lv_iconst (v := 1) hx hb dL_law_1279 (by decide) ?_
    refine lv_iadd hx hb dL_law_1280 ?_
    refine m_sld (v := xs (4 * q + 1)) hx hb hC.hX hC.hbl hC.hbA hS (k := 4 * q + 1) (m_add rfl rfl) (by omega) hC.hL rfl dL_law_1281 ?_
    refine lv_aload_n hx hb dL_law_1282 rfl (lv_at hl 5 rfl) ?_
    refine lv_iload hx hb dL_law_1283 (lv_at hl 0 rfl) ?_
    refine lv_iconst (v := 2) hx hb dL_law_1285 (by decide) ?_
    refine lv_iadd hx hb dL_law_1286 ?_
    refine m_sld (v := xs (4 * q + 2)) hx hb hC.hX hC.hbl hC.hbA hS (k := 4 * q + 2) (m_add rfl rfl) (by omega) hC.hL rfl dL_law_1287 ?_
    refine lv_aload_n hx hb dL_law_1288 rfl (lv_at hl 5 rfl) ?_
    refine lv_iload hx hb dL_law_1289 (lv_at hl 0 rfl) ?_
    refine lv_iconst (v := 3) hx hb dL_law_1291 (by decide) ?_
    refine lv_iadd hx hb dL_law_1292 ?_
    refine m_sld (v := xs (4 * q + 3)) hx hb hC.hX hC.hbl hC.hbA hS (k := 4 * q + 3) (m_add rfl rfl) (by omega) hC.hL rfl dL_law_1293 ?_
    refine lv_aload_n hx hb dL_law_1294 rfl (lv_at hl 2 rfl) ?_
    refine lw_w (Wc := (LCh cy a s9 s9)) (Wn := (LCh cy a S9 s9)) hC (w_litresToReach_1 l G cy kS vS a.aX a.na a.tr a.sn s9.hs a.hi a.sc s9.ep s9.fc a.ob s9.σ (xs (4 * q + 1)) (xs (4 * q + 2)) (xs (4 * q + 3)) a.oA s9.fo hC.hl9 hI.1.1 hF) (vx_cwSW 5 hC.S9.2.2.2.2 gL_law_L_litresToReach rfl rfl rfl (by decide +kernel) ⟨Nat.le_of_ble_eq_true rfl, Nat.le_of_ble_eq_true rfl⟩) [0, 1, 24] rfl (by decide) (SameL.cons SameA.rf (SameL.cons SameA.rf (SameL.cons SameA.rf SameL.nil))) (by subst eS; rfl) hP hD hS rfl hl.1 rfl (Nat.le_of_ble_eq_true rfl) ⟨hc1, hs1⟩ dL_law_1295 (fun H locs hP hD hS => ?_)
    refine lv_istore (lv' := [(6, .int 1), (5, .int (nI (4 * q))), (4, .ref a.oD), (3, .ref a.oA), (2, .ref a.am), (1, .ref a.aX), (0, .ref b)]) hx hb dL_law_1298 hl (by decide) rfl (fun ls hl => ?_)
    refine lv_aload_n hx hb dL_law_1300 rfl (lv_at hl 4 rfl) ?_
    refine lv_aload_n hx hb dL_law_1301 rfl (lv_at hl 6 rfl) ?_
    refine lv_iload hx hb dL_law_1302 (lv_at hl 1 rfl) ?_
    refine lv_iconst (v := 1) hx hb dL_law_1304 (by decide) ?_
    refine lv_iadd hx hb dL_law_1305 ?_
    refine m_sld (v := xs (4 * q + 1)) hx hb hC.hX hC.hbl hC.hbA hS (k := 4 * q + 1) (m_add rfl rfl) (by omega) hC.hL rfl dL_law_1306 ?_
    refine lv_aload_n hx hb dL_law_1307 rfl (lv_at hl 6 rfl) ?_
    refine lv_iload hx hb dL_law_1308 (lv_at hl 1 rfl) ?_
    refine lv_iconst (v := 2) hx hb dL_law_1310 (by decide) ?_
    refine lv_iadd hx hb dL_law_1311 ?_
    refine m_sld (v := xs (4 * q + 2)) hx hb hC.hX hC.hbl hC.hbA hS (k := 4 * q + 2) (m_add rfl rfl) (by omega) hC.hL rfl dL_law_1312 ?_
    refine lv_aload_n hx hb dL_law_1313 rfl (lv_at hl 6 rfl) ?_
    refine lv_iload hx hb dL_law_1314 (lv_at hl 1 rfl) ?_
    refine lv_iconst (v := 3) hx hb dL_law_1316 (by decide) ?_
    refine lv_iadd hx hb dL_law_1317 ?_
    refine m_sld (v := xs (4 * q + 3)) hx hb hC.hX hC.hbl hC.hbA hS (k := 4 * q + 3) (m_add rfl rfl) (by omega) hC.hL rfl dL_law_1318 ?_
    refine lw_m (s1 := S9) (t1 := s9) (Wn := (LCh cy a S9 S9)) hC (c_X8_litresToReach_no1 l G cy a.am a.aS a.aBf a.aAs a.aSv a.aPa a.aOu a.aTx a.aCo s9.ct s9.nb s9.LN ((s9.x0).1) s9.CM s9.hs s9.th (bI (s9.x0).2) s9.ep s9.fc s9.σ (xs (4 * q + 1)) (xs (4 * q + 2)) (xs (4 * q + 3)) hI.1.1 hF) (cwV 3 hC.S9.2.2.2.2 gL_law_X8_litresToReach rfl rfl rfl (by decide +kernel) ⟨Nat.le_of_ble_eq_true rfl, Nat.le_of_ble_eq_true rfl⟩) [15, 16] rfl (by decide) (SameR.cons (SameR.cons SameR.nil)) (by subst eS; rfl) hP hD hS rfl hl.1 rfl (Nat.le_of_ble_eq_true rfl) ⟨hc1, hs1⟩ dL_law_1319 (fun H locs hP hD hS => ?_)
    refine lv_istore (lv' := [(7, .int 0), (6, .int 1), (5, .int (nI (4 * q))), (4, .ref a.oD), (3, .ref a.oA), (2, .ref a.am), (1, .ref a.aX), (0, .ref b)]) hx hb dL_law_1322 hl (by decide) rfl (fun ls hl => ?_)
    refine lv_aload_n hx hb dL_law_1324 rfl (lv_at hl 5 rfl) ?_
    refine lw_thrown (s1 := S9) (t1 := S9) (k := 1) hC hP (by subst eS; rfl) hl.1 (Nat.le_of_ble_eq_true rfl) ⟨hc1, hs1⟩ dL_law_1325 ?_
    refine lv_iload hx hb dL_law_1328 (lv_at hl 1 rfl) ?_
    refine lv_icmp_eq (tgt := 1335) hx hb dL_law_1330 (by decide) (fun c_1330 => ?_) (fun c_1330 => ?_)
    rotate_left
    · exact absurd c_1330 (by decide)
    refine lv_iload hx hb dL_law_1335 (lv_at hl 1 rfl) ?_
    refine lv_if_ne (tgt := 1352) hx hb dL_law_1337 (by decide) (fun c_1337 => ?_) (fun c_1337 => ?_)
    rotate_left
    · exact absurd c_1337 (by decide)
    refine lv_goto (tgt := 2890) hx hb dL_law_1352 (by decide) ?_
    exact kk S9 H locs ls (LI.of (LI.mono hI (by omega)) (by subst eS; rfl) (by subst eS; rfl) (by subst eS; rfl) (by subst eS; rfl) (by subst eS; rfl) (by subst eS; rfl) (by subst eS; rfl) (by subst eS; rfl) (by subst eS; rfl) (by subst eS; rfl) (by subst eS; rfl) (by subst eS; rfl) (by subst eS; rfl) (by subst eS; rfl) (by subst eS; rfl)) hP hD hS (lv_sub hl [2, 3, 4, 5, 6, 7] rfl)

set_option maxRecDepth 100000 in
set_option maxHeartbeats 4000000 in
theorem case_17 {p : Program} {l : Launch} {e : Env} {s : State} {m : MethodId} {below : List Frame} {meth : Method} {cq : Code} {G : va_G} {cy : Nat → ClassId} {kS vS : Nat → Nat} {A : Nat → Prop} {a : LA} {b L q : Nat} {xs : Nat → Int32} {Q : State → Prop} {n0 cells slots : Nat} (hC : LC l p s m meth cq G cy kS vS A b L xs) (hq : 4 * q + 4 ≤ L) (hn0 : n0 < 1000000) (hc1 : cells + 1 ≤ room_1.cells) (hs1 : slots + 6 ≤ room_1.slots) (kk : LGo p l e s m below meth cq G cy A a b q Q (n0 + 300) (cells + 1) (slots + 6) 2890) : LGo p l e s m below meth cq G cy A a b q Q n0 cells slots 1355 := by
  intro s9 H locs ls hI hP hD hS hl
  obtain ⟨hx, hb, hml, hown, hts⟩ := id hC.S9
  have hL9 := hC.hL
  have hc0 : cells + 0 ≤ room_1.cells := Nat.le_of_succ_le hc1
  have hcn : cells ≤ room_1.cells := Nat.le_of_succ_le hc1
  have hs0 : slots + 0 ≤ room_1.slots := Nat.le_trans (Nat.le_add_right slots 6) hs1
  have hsn : slots ≤ room_1.slots := Nat.le_trans (Nat.le_add_right slots 6) hs1
  have ho := hI.1.1
  have hN0 := ho.1
  have hM0 := ho.2.1
  have hE0 := ho.2.2.1
  have hnx := hI.2.2.2.2.1
  have hct := hI.2.2.2.2.2.1
  by_cases hF : inI (xs (4 * q + 1)) (nI (nB s9.σ)) = true
  · obtain ⟨j, hj, e1⟩ := ix_of (by omega) hF
    by_cases ht : tapB (xs (4 * q + 2)) = true
    · by_cases hg : inR (xs (4 * q + 3)) 0 99 = true
      · by_cases hwt : wet (vB s9.σ) j = true
        · have hfe : frmF (vB s9.σ j) (hB s9.σ j) (xs (4 * q + 2)) (xs (4 * q + 3)) = atF (ltF (vB s9.σ j) (hB s9.σ j) (xs (4 * q + 2)) (xs (4 * q + 3))) 1 0 (101 - bx (vB s9.σ j)) := frm_eq hI.1.bd (by omega) hwt ht hg
          by_cases hR : atF (ltF (vB s9.σ j) (hB s9.σ j) (xs (4 * q + 2)) (xs (4 * q + 3))) 1 0 (101 - bx (vB s9.σ j)) = -1
          · obtain ⟨S9, eS⟩ : ∃ z : LwS, z = (LwS.mk s9.σ s9.υ s9.ς s9.hs s9.ep s9.fc s9.ml 4 s9.nx s9.ct s9.nb s9.n s9.LN s9.CM s9.ρ s9.x s9.x0 s9.f s9.gk s9.g1 s9.g2 s9.g3 s9.fb s9.fB s9.fA s9.fV s9.fP s9.fO s9.g s9.fo s9.fd) := ⟨_, rfl⟩
            refine lv_aload_n hx hb dL_law_1355 rfl (lv_at hl 4 rfl) ?_
            refine lv_aload_n hx hb dL_law_1356 rfl (lv_at hl 5 rfl) ?_
            refine lv_iload hx hb dL_law_1357 (lv_at hl 0 rfl) ?_
            refine lv_iconst (v := 1) hx hb dL_law_1359 (by decide) ?_
            refine lv_iadd hx hb dL_law_1360 ?_
            refine m_sld (v := nI j) hx hb hC.hX hC.hbl hC.hbA hS (k := 4 * q + 1) (m_add rfl rfl) (by omega) hC.hL e1 dL_law_1361 ?_
            refine lv_aload_n hx hb dL_law_1362 rfl (lv_at hl 5 rfl) ?_
            refine lv_iload hx hb dL_law_1363 (lv_at hl 0 rfl) ?_
            refine lv_iconst (v := 2) hx hb dL_law_1365 (by decide) ?_
            refine lv_iadd hx hb dL_law_1366 ?_
            refine m_sld (v := xs (4 * q + 2)) hx hb hC.hX hC.hbl hC.hbA hS (k := 4 * q + 2) (m_add rfl rfl) (by omega) hC.hL rfl dL_law_1367 ?_
            refine lv_aload_n hx hb dL_law_1368 rfl (lv_at hl 5 rfl) ?_
            refine lv_iload hx hb dL_law_1369 (lv_at hl 0 rfl) ?_
            refine lv_iconst (v := 3) hx hb dL_law_1371 (by decide) ?_
            refine lv_iadd hx hb dL_law_1372 ?_
            refine m_sld (v := xs (4 * q + 3)) hx hb hC.hX hC.hbl hC.hbA hS (k := 4 * q + 3) (m_add rfl rfl) (by omega) hC.hL rfl dL_law_1373 ?_
            refine lv_aload_n hx hb dL_law_1374 rfl (lv_at hl 2 rfl) ?_
            refine lw_w (Wc := (LCh cy a s9 s9)) (Wn := (LCh cy a S9 s9)) hC (w_litresToReachByFormula_4 l G cy kS vS a.aX a.na a.tr a.sn s9.hs a.hi a.sc s9.ep s9.fc a.ob s9.σ j (xs (4 * q + 2)) (xs (4 * q + 3)) a.oA s9.fo hC.hl9 hI.1.1 hj hI.1.bd ht hg hwt (hfe.trans hR)) (vx_cwSW 5 hC.S9.2.2.2.2 gL_law_L_litresToReachByFormula rfl rfl rfl (by decide +kernel) ⟨Nat.le_of_ble_eq_true rfl, Nat.le_of_ble_eq_true rfl⟩) [0, 1, 24] rfl (by decide) (SameL.cons SameA.rf (SameL.cons SameA.rf (SameL.cons SameA.rf SameL.nil))) (by subst eS; rfl) hP hD hS rfl hl.1 rfl (Nat.le_of_ble_eq_true rfl) ⟨hc1, hs1⟩ dL_law_1375 (fun H locs hP hD hS => ?_)
            refine lv_istore (lv' := [(6, .int 4), (5, .int (nI (4 * q))), (4, .ref a.oD), (3, .ref a.oA), (2, .ref a.am), (1, .ref a.aX), (0, .ref b)]) hx hb dL_law_1378 hl (by decide) rfl (fun ls hl => ?_)
            refine lv_aload_n hx hb dL_law_1380 rfl (lv_at hl 4 rfl) ?_
            refine lv_aload_n hx hb dL_law_1381 rfl (lv_at hl 6 rfl) ?_
            refine lv_iload hx hb dL_law_1382 (lv_at hl 1 rfl) ?_
            refine lv_iconst (v := 1) hx hb dL_law_1384 (by decide) ?_
            refine lv_iadd hx hb dL_law_1385 ?_
            refine m_sld (v := nI j) hx hb hC.hX hC.hbl hC.hbA hS (k := 4 * q + 1) (m_add rfl rfl) (by omega) hC.hL e1 dL_law_1386 ?_
            refine lv_aload_n hx hb dL_law_1387 rfl (lv_at hl 6 rfl) ?_
            refine lv_iload hx hb dL_law_1388 (lv_at hl 1 rfl) ?_
            refine lv_iconst (v := 2) hx hb dL_law_1390 (by decide) ?_
            refine lv_iadd hx hb dL_law_1391 ?_
            refine m_sld (v := xs (4 * q + 2)) hx hb hC.hX hC.hbl hC.hbA hS (k := 4 * q + 2) (m_add rfl rfl) (by omega) hC.hL rfl dL_law_1392 ?_
            refine lv_aload_n hx hb dL_law_1393 rfl (lv_at hl 6 rfl) ?_
            refine lv_iload hx hb dL_law_1394 (lv_at hl 1 rfl) ?_
            refine lv_iconst (v := 3) hx hb dL_law_1396 (by decide) ?_
            refine lv_iadd hx hb dL_law_1397 ?_
            refine m_sld (v := xs (4 * q + 3)) hx hb hC.hX hC.hbl hC.hbA hS (k := 4 * q + 3) (m_add rfl rfl) (by omega) hC.hL rfl dL_law_1398 ?_
            refine lw_m (s1 := S9) (t1 := s9) (Wn := (LCh cy a S9 S9)) hC (c_X8_litresToReachByFormula_no4 l G cy a.am a.aS a.aBf a.aAs a.aSv a.aPa a.aOu a.aTx a.aCo s9.ct s9.nb s9.LN ((s9.x0).1) s9.CM s9.hs s9.th (bI (s9.x0).2) s9.ep s9.fc s9.σ j (xs (4 * q + 2)) (xs (4 * q + 3)) hI.1.1 hj hI.1.bd ht hg hwt hR) (cwV 3 hC.S9.2.2.2.2 gL_law_X8_litresToReachByFormula rfl rfl rfl (by decide +kernel) ⟨Nat.le_of_ble_eq_true rfl, Nat.le_of_ble_eq_true rfl⟩) [15, 16] rfl (by decide) (SameR.cons (SameR.cons SameR.nil)) (by subst eS; rfl) hP hD hS rfl hl.1 rfl (Nat.le_of_ble_eq_true rfl) ⟨hc1, hs1⟩ dL_law_1399 (fun H locs hP hD hS => ?_)
            refine lv_istore (lv' := [(7, .int 0), (6, .int 4), (5, .int (nI (4 * q))), (4, .ref a.oD), (3, .ref a.oA), (2, .ref a.am), (1, .ref a.aX), (0, .ref b)]) hx hb dL_law_1402 hl (by decide) rfl (fun ls hl => ?_)
            refine lv_aload_n hx hb dL_law_1404 rfl (lv_at hl 5 rfl) ?_
            refine lw_thrown (s1 := S9) (t1 := S9) (k := 4) hC hP (by subst eS; rfl) hl.1 (Nat.le_of_ble_eq_true rfl) ⟨hc1, hs1⟩ dL_law_1405 ?_
            refine lv_iload hx hb dL_law_1408 (lv_at hl 1 rfl) ?_
            refine lv_icmp_eq (tgt := 1415) hx hb dL_law_1410 (by decide) (fun c_1410 => ?_) (fun c_1410 => ?_)
            rotate_left
            · exact absurd c_1410 (by decide)
            refine lv_iload hx hb dL_law_1415 (lv_at hl 1 rfl) ?_
            refine lv_if_ne (tgt := 1432) hx hb dL_law_1417 (by decide) (fun c_1417 => ?_) (fun c_1417 => ?_)
            rotate_left
            · exact absurd c_1417 (by decide)
            refine lv_goto (tgt := 2890) hx hb dL_law_1432 (by decide) ?_
            exact kk S9 H locs ls (LI.of (LI.mono hI (by omega)) (by subst eS; rfl) (by subst eS; rfl) (by subst eS; rfl) (by subst eS; rfl) (by subst eS; rfl) (by subst eS; rfl) (by subst eS; rfl) (by subst eS; rfl) (by subst eS; rfl) (by subst eS; rfl) (by subst eS; rfl) (by subst eS; rfl) (by subst eS; rfl) (by subst eS; rfl) (by subst eS; rfl)) hP hD hS (lv_sub hl [2, 3, 4, 5, 6, 7] rfl)
          · obtain ⟨S9, eS⟩ : ∃ z : LwS, z = (LwS.mk s9.σ s9.υ s9.ς s9.hs s9.ep s9.fc s9.ml 0 s9.nx s9.ct s9.nb s9.n s9.LN s9.CM s9.ρ s9.x s9.x0 s9.f s9.gk s9.g1 s9.g2 s9.g3 s9.fb s9.fB s9.fA s9.fV s9.fP s9.fO s9.g (fun _ => (frmF (vB s9.σ j) (hB s9.σ j) (xs (4 * q + 2)) (xs (4 * q + 3))).toInt64) s9.fd) := ⟨_, rfl⟩
            refine lv_aload_n hx hb dL_law_1355 rfl (lv_at hl 4 rfl) ?_
            refine lv_aload_n hx hb dL_law_1356 rfl (lv_at hl 5 rfl) ?_
            refine lv_iload hx hb dL_law_1357 (lv_at hl 0 rfl) ?_
            refine lv_iconst (v := 1) hx hb dL_law_1359 (by decide) ?_
            refine lv_iadd hx hb dL_law_1360 ?_
            refine m_sld (v := nI j) hx hb hC.hX hC.hbl hC.hbA hS (k := 4 * q + 1) (m_add rfl rfl) (by omega) hC.hL e1 dL_law_1361 ?_
            refine lv_aload_n hx hb dL_law_1362 rfl (lv_at hl 5 rfl) ?_
            refine lv_iload hx hb dL_law_1363 (lv_at hl 0 rfl) ?_
            refine lv_iconst (v := 2) hx hb dL_law_1365 (by decide) ?_
            refine lv_iadd hx hb dL_law_1366 ?_
            refine m_sld (v := xs (4 * q + 2)) hx hb hC.hX hC.hbl hC.hbA hS (k := 4 * q + 2) (m_add rfl rfl) (by omega) hC.hL rfl dL_law_1367 ?_
            refine lv_aload_n hx hb dL_law_1368 rfl (lv_at hl 5 rfl) ?_
            refine lv_iload hx hb dL_law_1369 (lv_at hl 0 rfl) ?_
            refine lv_iconst (v := 3) hx hb dL_law_1371 (by decide) ?_
            refine lv_iadd hx hb dL_law_1372 ?_
            refine m_sld (v := xs (4 * q + 3)) hx hb hC.hX hC.hbl hC.hbA hS (k := 4 * q + 3) (m_add rfl rfl) (by omega) hC.hL rfl dL_law_1373 ?_
            refine lv_aload_n hx hb dL_law_1374 rfl (lv_at hl 2 rfl) ?_
            refine lw_w (Wc := (LCh cy a s9 s9)) (Wn := (LCh cy a S9 s9)) hC (w_litresToReachByFormula_ok l G cy kS vS a.aX a.na a.tr a.sn s9.hs a.hi a.sc s9.ep s9.fc a.ob s9.σ j (xs (4 * q + 2)) (xs (4 * q + 3)) a.oA s9.fo hI.1.1 hj hI.1.bd ht hg hwt (fun z => hR (hfe.symm.trans z))) (vx_cwSW 5 hC.S9.2.2.2.2 gL_law_L_litresToReachByFormula rfl rfl rfl (by decide +kernel) ⟨Nat.le_of_ble_eq_true rfl, Nat.le_of_ble_eq_true rfl⟩) [0, 1, 24] rfl (by decide) (SameL.cons SameA.rf (SameL.cons SameA.rf (SameL.cons SameA.one SameL.nil))) (by subst eS; rfl) hP hD hS rfl hl.1 rfl (Nat.le_of_ble_eq_true rfl) ⟨hc0, hs0⟩ dL_law_1375 (fun H locs hP hD hS => ?_)
            refine lv_istore (lv' := [(6, .int 0), (5, .int (nI (4 * q))), (4, .ref a.oD), (3, .ref a.oA), (2, .ref a.am), (1, .ref a.aX), (0, .ref b)]) hx hb dL_law_1378 hl (by decide) rfl (fun ls hl => ?_)
            refine lv_aload_n hx hb dL_law_1380 rfl (lv_at hl 4 rfl) ?_
            refine lv_aload_n hx hb dL_law_1381 rfl (lv_at hl 6 rfl) ?_
            refine lv_iload hx hb dL_law_1382 (lv_at hl 1 rfl) ?_
            refine lv_iconst (v := 1) hx hb dL_law_1384 (by decide) ?_
            refine lv_iadd hx hb dL_law_1385 ?_
            refine m_sld (v := nI j) hx hb hC.hX hC.hbl hC.hbA hS (k := 4 * q + 1) (m_add rfl rfl) (by omega) hC.hL e1 dL_law_1386 ?_
            refine lv_aload_n hx hb dL_law_1387 rfl (lv_at hl 6 rfl) ?_
            refine lv_iload hx hb dL_law_1388 (lv_at hl 1 rfl) ?_
            refine lv_iconst (v := 2) hx hb dL_law_1390 (by decide) ?_
            refine lv_iadd hx hb dL_law_1391 ?_
            refine m_sld (v := xs (4 * q + 2)) hx hb hC.hX hC.hbl hC.hbA hS (k := 4 * q + 2) (m_add rfl rfl) (by omega) hC.hL rfl dL_law_1392 ?_
            refine lv_aload_n hx hb dL_law_1393 rfl (lv_at hl 6 rfl) ?_
            refine lv_iload hx hb dL_law_1394 (lv_at hl 1 rfl) ?_
            refine lv_iconst (v := 3) hx hb dL_law_1396 (by decide) ?_
            refine lv_iadd hx hb dL_law_1397 ?_
            refine m_sld (v := xs (4 * q + 3)) hx hb hC.hX hC.hbl hC.hbA hS (k := 4 * q + 3) (m_add rfl rfl) (by omega) hC.hL rfl dL_law_1398 ?_
            refine lw_m (s1 := S9) (t1 := s9) (Wn := (LCh cy a S9 S9)) hC (c_X8_litresToReachByFormula_ok l G cy a.am a.aS a.aBf a.aAs a.aSv a.aPa a.aOu a.aTx a.aCo s9.ct s9.nb s9.LN ((s9.x0).1) s9.CM s9.hs s9.th (bI (s9.x0).2) s9.ep s9.fc s9.σ j (xs (4 * q + 2)) (xs (4 * q + 3)) (atF (ltF (vB s9.σ j) (hB s9.σ j) (xs (4 * q + 2)) (xs (4 * q + 3))) 1 0 (101 - bx (vB s9.σ j))) hI.1.1 hj hI.1.bd ht hg hwt rfl hR) (cwV 3 hC.S9.2.2.2.2 gL_law_X8_litresToReachByFormula rfl rfl rfl (by decide +kernel) ⟨Nat.le_of_ble_eq_true rfl, Nat.le_of_ble_eq_true rfl⟩) [15, 16] rfl (by decide) (SameR.cons (SameR.cons SameR.nil)) (by subst eS; rfl) hP hD hS rfl hl.1 rfl (Nat.le_of_ble_eq_true rfl) ⟨hcn, hsn⟩ dL_law_1399 (fun H locs hP hD hS => ?_)
            refine lv_istore (lv' := [(7, .int (atF (ltF (vB s9.σ j) (hB s9.σ j) (xs (4 * q + 2)) (xs (4 * q + 3))) 1 0 (101 - bx (vB s9.σ j)))), (6, .int 0), (5, .int (nI (4 * q))), (4, .ref a.oD), (3, .ref a.oA), (2, .ref a.am), (1, .ref a.aX), (0, .ref b)]) hx hb dL_law_1402 hl (by decide) rfl (fun ls hl => ?_)
            refine lv_aload_n hx hb dL_law_1404 rfl (lv_at hl 5 rfl) ?_
            refine lw_thrown (s1 := S9) (t1 := S9) (k := 0) hC hP (by subst eS; rfl) hl.1 (Nat.le_of_ble_eq_true rfl) ⟨hcn, hsn⟩ dL_law_1405 ?_
            refine lv_iload hx hb dL_law_1408 (lv_at hl 1 rfl) ?_
            refine lv_icmp_eq (tgt := 1415) hx hb dL_law_1410 (by decide) (fun c_1410 => ?_) (fun c_1410 => ?_)
            rotate_left
            · exact absurd c_1410 (by decide)
            refine lv_iload hx hb dL_law_1415 (lv_at hl 1 rfl) ?_
            refine lv_if_ne (tgt := 1432) hx hb dL_law_1417 (by decide) (fun c_1417 => ?_) (fun c_1417 => ?_)
            · exact absurd c_1417 (by decide)
            refine lv_aload_n hx hb dL_law_1420 rfl (lv_at hl 4 rfl) ?_
            refine lv_iconst (v := 0) hx hb dL_law_1421 (by decide) ?_
            refine lw_ldL (s1 := S9) (t1 := S9) (x := (frmF (vB s9.σ j) (hB s9.σ j) (xs (4 * q + 2)) (xs (4 * q + 3))).toInt64) hC hP (by subst eS; rfl) dL_law_1422 ?_
            refine lv_iload hx hb dL_law_1423 (lv_at hl 0 rfl) ?_
            refine lv_i2l hx hb dL_law_1425 rfl ?_
            refine m_lcmp0 hx hb (congrArg Int32.toInt64 hfe) dL_law_1426 ?_
            refine lv_if_eq (tgt := 1432) hx hb dL_law_1427 (by decide) (fun c_1427 => ?_) (fun c_1427 => ?_)
            rotate_left
            · exact absurd c_1427 (by decide)
            refine lv_goto (tgt := 2890) hx hb dL_law_1432 (by decide) ?_
            refine W.widen (k := cells + 1) (n := slots + 6) (by omega) (by omega) ?_
            exact kk S9 H locs ls (LI.of (LI.mono hI (by omega)) (by subst eS; rfl) (by subst eS; rfl) (by subst eS; rfl) (by subst eS; rfl) (by subst eS; rfl) (by subst eS; rfl) (by subst eS; rfl) (by subst eS; rfl) (by subst eS; rfl) (by subst eS; rfl) (by subst eS; rfl) (by subst eS; rfl) (by subst eS; rfl) (by subst eS; rfl) (by subst eS; rfl)) hP hD hS (lv_sub hl [2, 3, 4, 5, 6, 7] rfl)
        · obtain ⟨S9, eS⟩ : ∃ z : LwS, z = (LwS.mk s9.σ s9.υ s9.ς s9.hs s9.ep s9.fc s9.ml 3 s9.nx s9.ct s9.nb s9.n s9.LN s9.CM s9.ρ s9.x s9.x0 s9.f s9.gk s9.g1 s9.g2 s9.g3 s9.fb s9.fB s9.fA s9.fV s9.fP s9.fO s9.g s9.fo s9.fd) := ⟨_, rfl⟩
          refine lv_aload_n hx hb dL_law_1355 rfl (lv_at hl 4 rfl) ?_
          refine lv_aload_n hx hb dL_law_1356 rfl (lv_at hl 5 rfl) ?_
          refine lv_iload hx hb dL_law_1357 (lv_at hl 0 rfl) ?_
          refine lv_iconst (v := 1) hx hb dL_law_1359 (by decide) ?_
          refine lv_iadd hx hb dL_law_1360 ?_
          refine m_sld (v := nI j) hx hb hC.hX hC.hbl hC.hbA hS (k := 4 * q + 1) (m_add rfl rfl) (by omega) hC.hL e1 dL_law_1361 ?_
          refine lv_aload_n hx hb dL_law_1362 rfl (lv_at hl 5 rfl) ?_
          refine lv_iload hx hb dL_law_1363 (lv_at hl 0 rfl) ?_
          refine lv_iconst (v := 2) hx hb dL_law_1365 (by decide) ?_
          refine lv_iadd hx hb dL_law_1366 ?_
          refine m_sld (v := xs (4 * q + 2)) hx hb hC.hX hC.hbl hC.hbA hS (k := 4 * q + 2) (m_add rfl rfl) (by omega) hC.hL rfl dL_law_1367 ?_
          refine lv_aload_n hx hb dL_law_1368 rfl (lv_at hl 5 rfl) ?_
          refine lv_iload hx hb dL_law_1369 (lv_at hl 0 rfl) ?_
          refine lv_iconst (v := 3) hx hb dL_law_1371 (by decide) ?_
          refine lv_iadd hx hb dL_law_1372 ?_
          refine m_sld (v := xs (4 * q + 3)) hx hb hC.hX hC.hbl hC.hbA hS (k := 4 * q + 3) (m_add rfl rfl) (by omega) hC.hL rfl dL_law_1373 ?_
          refine lv_aload_n hx hb dL_law_1374 rfl (lv_at hl 2 rfl) ?_
          refine lw_w (Wc := (LCh cy a s9 s9)) (Wn := (LCh cy a S9 s9)) hC (w_litresToReachByFormula_3 l G cy kS vS a.aX a.na a.tr a.sn s9.hs a.hi a.sc s9.ep s9.fc a.ob s9.σ j (xs (4 * q + 2)) (xs (4 * q + 3)) a.oA s9.fo hC.hl9 hI.1.1 hj ht hg hwt) (vx_cwSW 5 hC.S9.2.2.2.2 gL_law_L_litresToReachByFormula rfl rfl rfl (by decide +kernel) ⟨Nat.le_of_ble_eq_true rfl, Nat.le_of_ble_eq_true rfl⟩) [0, 1, 24] rfl (by decide) (SameL.cons SameA.rf (SameL.cons SameA.rf (SameL.cons SameA.rf SameL.nil))) (by subst eS; rfl) hP hD hS rfl hl.1 rfl (Nat.le_of_ble_eq_true rfl) ⟨hc1, hs1⟩ dL_law_1375 (fun H locs hP hD hS => ?_)
          refine lv_istore (lv' := [(6, .int 3), (5, .int (nI (4 * q))), (4, .ref a.oD), (3, .ref a.oA), (2, .ref a.am), (1, .ref a.aX), (0, .ref b)]) hx hb dL_law_1378 hl (by decide) rfl (fun ls hl => ?_)
          refine lv_aload_n hx hb dL_law_1380 rfl (lv_at hl 4 rfl) ?_
          refine lv_aload_n hx hb dL_law_1381 rfl (lv_at hl 6 rfl) ?_
          refine lv_iload hx hb dL_law_1382 (lv_at hl 1 rfl) ?_
          refine lv_iconst (v := 1) hx hb dL_law_1384 (by decide) ?_
          refine lv_iadd hx hb dL_law_1385 ?_
          refine m_sld (v := nI j) hx hb hC.hX hC.hbl hC.hbA hS (k := 4 * q + 1) (m_add rfl rfl) (by omega) hC.hL e1 dL_law_1386 ?_
          refine lv_aload_n hx hb dL_law_1387 rfl (lv_at hl 6 rfl) ?_
          refine lv_iload hx hb dL_law_1388 (lv_at hl 1 rfl) ?_
          refine lv_iconst (v := 2) hx hb dL_law_1390 (by decide) ?_
          refine lv_iadd hx hb dL_law_1391 ?_
          refine m_sld (v := xs (4 * q + 2)) hx hb hC.hX hC.hbl hC.hbA hS (k := 4 * q + 2) (m_add rfl rfl) (by omega) hC.hL rfl dL_law_1392 ?_
          refine lv_aload_n hx hb dL_law_1393 rfl (lv_at hl 6 rfl) ?_
          refine lv_iload hx hb dL_law_1394 (lv_at hl 1 rfl) ?_
          refine lv_iconst (v := 3) hx hb dL_law_1396 (by decide) ?_
          refine lv_iadd hx hb dL_law_1397 ?_
          refine m_sld (v := xs (4 * q + 3)) hx hb hC.hX hC.hbl hC.hbA hS (k := 4 * q + 3) (m_add rfl rfl) (by omega) hC.hL rfl dL_law_1398 ?_
          refine lw_m (s1 := S9) (t1 := s9) (Wn := (LCh cy a S9 S9)) hC (c_X8_litresToReachByFormula_no5 l G cy a.am a.aS a.aBf a.aAs a.aSv a.aPa a.aOu a.aTx a.aCo s9.ct s9.nb s9.LN ((s9.x0).1) s9.CM s9.hs s9.th (bI (s9.x0).2) s9.ep s9.fc s9.σ j (xs (4 * q + 2)) (xs (4 * q + 3)) hI.1.1 hj ht hg hwt) (cwV 3 hC.S9.2.2.2.2 gL_law_X8_litresToReachByFormula rfl rfl rfl (by decide +kernel) ⟨Nat.le_of_ble_eq_true rfl, Nat.le_of_ble_eq_true rfl⟩) [15, 16] rfl (by decide) (SameR.cons (SameR.cons SameR.nil)) (by subst eS; rfl) hP hD hS rfl hl.1 rfl (Nat.le_of_ble_eq_true rfl) ⟨hc1, hs1⟩ dL_law_1399 (fun H locs hP hD hS => ?_)
          refine lv_istore (lv' := [(7, .int 0), (6, .int 3), (5, .int (nI (4 * q))), (4, .ref a.oD), (3, .ref a.oA), (2, .ref a.am), (1, .ref a.aX), (0, .ref b)]) hx hb dL_law_1402 hl (by decide) rfl (fun ls hl => ?_)
          refine lv_aload_n hx hb dL_law_1404 rfl (lv_at hl 5 rfl) ?_
          refine lw_thrown (s1 := S9) (t1 := S9) (k := 3) hC hP (by subst eS; rfl) hl.1 (Nat.le_of_ble_eq_true rfl) ⟨hc1, hs1⟩ dL_law_1405 ?_
          refine lv_iload hx hb dL_law_1408 (lv_at hl 1 rfl) ?_
          refine lv_icmp_eq (tgt := 1415) hx hb dL_law_1410 (by decide) (fun c_1410 => ?_) (fun c_1410 => ?_)
          rotate_left
          · exact absurd c_1410 (by decide)
          refine lv_iload hx hb dL_law_1415 (lv_at hl 1 rfl) ?_
          refine lv_if_ne (tgt := 1432) hx hb dL_law_1417 (by decide) (fun c_1417 => ?_) (fun c_1417 => ?_)
          rotate_left
          · exact absurd c_1417 (by decide)
          refine lv_goto (tgt := 2890) hx hb dL_law_1432 (by decide) ?_
          exact kk S9 H locs ls (LI.of (LI.mono hI (by omega)) (by subst eS; rfl) (by subst eS; rfl) (by subst eS; rfl) (by subst eS; rfl) (by subst eS; rfl) (by subst eS; rfl) (by subst eS; rfl) (by subst eS; rfl) (by subst eS; rfl) (by subst eS; rfl) (by subst eS; rfl) (by subst eS; rfl) (by subst eS; rfl) (by subst eS; rfl) (by subst eS; rfl)) hP hD hS (lv_sub hl [2, 3, 4, 5, 6, 7] rfl)
      · obtain ⟨S9, eS⟩ : ∃ z : LwS, z = (LwS.mk s9.σ s9.υ s9.ς s9.hs s9.ep s9.fc s9.ml 2 s9.nx s9.ct s9.nb s9.n s9.LN s9.CM s9.ρ s9.x s9.x0 s9.f s9.gk s9.g1 s9.g2 s9.g3 s9.fb s9.fB s9.fA s9.fV s9.fP s9.fO s9.g s9.fo s9.fd) := ⟨_, rfl⟩
        refine lv_aload_n hx hb dL_law_1355 rfl (lv_at hl 4 rfl) ?_
        refine lv_aload_n hx hb dL_law_1356 rfl (lv_at hl 5 rfl) ?_
        refine lv_iload hx hb dL_law_1357 (lv_at hl 0 rfl) ?_
        refine lv_iconst (v := 1) hx hb dL_law_1359 (by decide) ?_
        refine lv_iadd hx hb dL_law_1360 ?_
        refine m_sld (v := nI j) hx hb hC.hX hC.hbl hC.hbA hS (k := 4 * q + 1) (m_add rfl rfl) (by omega) hC.hL e1 dL_law_1361 ?_
        refine lv_aload_n hx hb dL_law_1362 rfl (lv_at hl 5 rfl) ?_
        refine lv_iload hx hb dL_law_1363 (lv_at hl 0 rfl) ?_
        refine lv_iconst (v := 2) hx hb dL_law_1365 (by decide) ?_
        refine lv_iadd hx hb dL_law_1366 ?_
        refine m_sld (v := xs (4 * q + 2)) hx hb hC.hX hC.hbl hC.hbA hS (k := 4 * q + 2) (m_add rfl rfl) (by omega) hC.hL rfl dL_law_1367 ?_
        refine lv_aload_n hx hb dL_law_1368 rfl (lv_at hl 5 rfl) ?_
        refine lv_iload hx hb dL_law_1369 (lv_at hl 0 rfl) ?_
        refine lv_iconst (v := 3) hx hb dL_law_1371 (by decide) ?_
        refine lv_iadd hx hb dL_law_1372 ?_
        refine m_sld (v := xs (4 * q + 3)) hx hb hC.hX hC.hbl hC.hbA hS (k := 4 * q + 3) (m_add rfl rfl) (by omega) hC.hL rfl dL_law_1373 ?_
        refine lv_aload_n hx hb dL_law_1374 rfl (lv_at hl 2 rfl) ?_
        refine lw_w (Wc := (LCh cy a s9 s9)) (Wn := (LCh cy a S9 s9)) hC (w_litresToReachByFormula_2 l G cy kS vS a.aX a.na a.tr a.sn s9.hs a.hi a.sc s9.ep s9.fc a.ob s9.σ j (xs (4 * q + 2)) (xs (4 * q + 3)) a.oA s9.fo hC.hl9 hI.1.1 hj (fun z => hg z.2)) (vx_cwSW 5 hC.S9.2.2.2.2 gL_law_L_litresToReachByFormula rfl rfl rfl (by decide +kernel) ⟨Nat.le_of_ble_eq_true rfl, Nat.le_of_ble_eq_true rfl⟩) [0, 1, 24] rfl (by decide) (SameL.cons SameA.rf (SameL.cons SameA.rf (SameL.cons SameA.rf SameL.nil))) (by subst eS; rfl) hP hD hS rfl hl.1 rfl (Nat.le_of_ble_eq_true rfl) ⟨hc1, hs1⟩ dL_law_1375 (fun H locs hP hD hS => ?_)
        refine lv_istore (lv' := [(6, .int 2), (5, .int (nI (4 * q))), (4, .ref a.oD), (3, .ref a.oA), (2, .ref a.am), (1, .ref a.aX), (0, .ref b)]) hx hb dL_law_1378 hl (by decide) rfl (fun ls hl => ?_)
        refine lv_aload_n hx hb dL_law_1380 rfl (lv_at hl 4 rfl) ?_
        refine lv_aload_n hx hb dL_law_1381 rfl (lv_at hl 6 rfl) ?_
        refine lv_iload hx hb dL_law_1382 (lv_at hl 1 rfl) ?_
        refine lv_iconst (v := 1) hx hb dL_law_1384 (by decide) ?_
        refine lv_iadd hx hb dL_law_1385 ?_
        refine m_sld (v := nI j) hx hb hC.hX hC.hbl hC.hbA hS (k := 4 * q + 1) (m_add rfl rfl) (by omega) hC.hL e1 dL_law_1386 ?_
        refine lv_aload_n hx hb dL_law_1387 rfl (lv_at hl 6 rfl) ?_
        refine lv_iload hx hb dL_law_1388 (lv_at hl 1 rfl) ?_
        refine lv_iconst (v := 2) hx hb dL_law_1390 (by decide) ?_
        refine lv_iadd hx hb dL_law_1391 ?_
        refine m_sld (v := xs (4 * q + 2)) hx hb hC.hX hC.hbl hC.hbA hS (k := 4 * q + 2) (m_add rfl rfl) (by omega) hC.hL rfl dL_law_1392 ?_
        refine lv_aload_n hx hb dL_law_1393 rfl (lv_at hl 6 rfl) ?_
        refine lv_iload hx hb dL_law_1394 (lv_at hl 1 rfl) ?_
        refine lv_iconst (v := 3) hx hb dL_law_1396 (by decide) ?_
        refine lv_iadd hx hb dL_law_1397 ?_
        refine m_sld (v := xs (4 * q + 3)) hx hb hC.hX hC.hbl hC.hbA hS (k := 4 * q + 3) (m_add rfl rfl) (by omega) hC.hL rfl dL_law_1398 ?_
        refine lw_m (s1 := S9) (t1 := s9) (Wn := (LCh cy a S9 S9)) hC (c_X8_litresToReachByFormula_no3 l G cy a.am a.aS a.aBf a.aAs a.aSv a.aPa a.aOu a.aTx a.aCo s9.ct s9.nb s9.LN ((s9.x0).1) s9.CM s9.hs s9.th (bI (s9.x0).2) s9.ep s9.fc s9.σ j (xs (4 * q + 2)) (xs (4 * q + 3)) hI.1.1 hj ht hg) (cwV 3 hC.S9.2.2.2.2 gL_law_X8_litresToReachByFormula rfl rfl rfl (by decide +kernel) ⟨Nat.le_of_ble_eq_true rfl, Nat.le_of_ble_eq_true rfl⟩) [15, 16] rfl (by decide) (SameR.cons (SameR.cons SameR.nil)) (by subst eS; rfl) hP hD hS rfl hl.1 rfl (Nat.le_of_ble_eq_true rfl) ⟨hc1, hs1⟩ dL_law_1399 (fun H locs hP hD hS => ?_)
        refine lv_istore (lv' := [(7, .int 0), (6, .int 2), (5, .int (nI (4 * q))), (4, .ref a.oD), (3, .ref a.oA), (2, .ref a.am), (1, .ref a.aX), (0, .ref b)]) hx hb dL_law_1402 hl (by decide) rfl (fun ls hl => ?_)
        refine lv_aload_n hx hb dL_law_1404 rfl (lv_at hl 5 rfl) ?_
        refine lw_thrown (s1 := S9) (t1 := S9) (k := 2) hC hP (by subst eS; rfl) hl.1 (Nat.le_of_ble_eq_true rfl) ⟨hc1, hs1⟩ dL_law_1405 ?_
        refine lv_iload hx hb dL_law_1408 (lv_at hl 1 rfl) ?_
        refine lv_icmp_eq (tgt := 1415) hx hb dL_law_1410 (by decide) (fun c_1410 => ?_) (fun c_1410 => ?_)
        rotate_left
        · exact absurd c_1410 (by decide)
        refine lv_iload hx hb dL_law_1415 (lv_at hl 1 rfl) ?_
        refine lv_if_ne (tgt := 1432) hx hb dL_law_1417 (by decide) (fun c_1417 => ?_) (fun c_1417 => ?_)
        rotate_left
        · exact absurd c_1417 (by decide)
        refine lv_goto (tgt := 2890) hx hb dL_law_1432 (by decide) ?_
        exact kk S9 H locs ls (LI.of (LI.mono hI (by omega)) (by subst eS; rfl) (by subst eS; rfl) (by subst eS; rfl) (by subst eS; rfl) (by subst eS; rfl) (by subst eS; rfl) (by subst eS; rfl) (by subst eS; rfl) (by subst eS; rfl) (by subst eS; rfl) (by subst eS; rfl) (by subst eS; rfl) (by subst eS; rfl) (by subst eS; rfl) (by subst eS; rfl)) hP hD hS (lv_sub hl [2, 3, 4, 5, 6, 7] rfl)
    · obtain ⟨S9, eS⟩ : ∃ z : LwS, z = (LwS.mk s9.σ s9.υ s9.ς s9.hs s9.ep s9.fc s9.ml 2 s9.nx s9.ct s9.nb s9.n s9.LN s9.CM s9.ρ s9.x s9.x0 s9.f s9.gk s9.g1 s9.g2 s9.g3 s9.fb s9.fB s9.fA s9.fV s9.fP s9.fO s9.g s9.fo s9.fd) := ⟨_, rfl⟩
      refine lv_aload_n hx hb dL_law_1355 rfl (lv_at hl 4 rfl) ?_
      refine lv_aload_n hx hb dL_law_1356 rfl (lv_at hl 5 rfl) ?_
      refine lv_iload hx hb dL_law_1357 (lv_at hl 0 rfl) ?_
      refine lv_iconst (v := 1) hx hb dL_law_1359 (by decide) ?_
      refine lv_iadd hx hb dL_law_1360 ?_
      refine m_sld (v := nI j) hx hb hC.hX hC.hbl hC.hbA hS (k := 4 * q + 1) (m_add rfl rfl) (by omega) hC.hL e1 dL_law_1361 ?_
      refine lv_aload_n hx hb dL_law_1362 rfl (lv_at hl 5 rfl) ?_
      refine lv_iload hx hb dL_law_1363 (lv_at hl 0 rfl) ?_
      refine lv_iconst (v := 2) hx hb dL_law_1365 (by decide) ?_
      refine lv_iadd hx hb dL_law_1366 ?_
      refine m_sld (v := xs (4 * q + 2)) hx hb hC.hX hC.hbl hC.hbA hS (k := 4 * q + 2) (m_add rfl rfl) (by omega) hC.hL rfl dL_law_1367 ?_
      refine lv_aload_n hx hb dL_law_1368 rfl (lv_at hl 5 rfl) ?_
      refine lv_iload hx hb dL_law_1369 (lv_at hl 0 rfl) ?_
      refine lv_iconst (v := 3) hx hb dL_law_1371 (by decide) ?_
      refine lv_iadd hx hb dL_law_1372 ?_
      refine m_sld (v := xs (4 * q + 3)) hx hb hC.hX hC.hbl hC.hbA hS (k := 4 * q + 3) (m_add rfl rfl) (by omega) hC.hL rfl dL_law_1373 ?_
      refine lv_aload_n hx hb dL_law_1374 rfl (lv_at hl 2 rfl) ?_
      refine lw_w (Wc := (LCh cy a s9 s9)) (Wn := (LCh cy a S9 s9)) hC (w_litresToReachByFormula_2 l G cy kS vS a.aX a.na a.tr a.sn s9.hs a.hi a.sc s9.ep s9.fc a.ob s9.σ j (xs (4 * q + 2)) (xs (4 * q + 3)) a.oA s9.fo hC.hl9 hI.1.1 hj (fun z => ht z.1)) (vx_cwSW 5 hC.S9.2.2.2.2 gL_law_L_litresToReachByFormula rfl rfl rfl (by decide +kernel) ⟨Nat.le_of_ble_eq_true rfl, Nat.le_of_ble_eq_true rfl⟩) [0, 1, 24] rfl (by decide) (SameL.cons SameA.rf (SameL.cons SameA.rf (SameL.cons SameA.rf SameL.nil))) (by subst eS; rfl) hP hD hS rfl hl.1 rfl (Nat.le_of_ble_eq_true rfl) ⟨hc1, hs1⟩ dL_law_1375 (fun H locs hP hD hS => ?_)
      refine lv_istore (lv' := [(6, .int 2), (5, .int (nI (4 * q))), (4, .ref a.oD), (3, .ref a.oA), (2, .ref a.am), (1, .ref a.aX), (0, .ref b)]) hx hb dL_law_1378 hl (by decide) rfl (fun ls hl => ?_)
      refine lv_aload_n hx hb dL_law_1380 rfl (lv_at hl 4 rfl) ?_
      refine lv_aload_n hx hb dL_law_1381 rfl (lv_at hl 6 rfl) ?_
      refine lv_iload hx hb dL_law_1382 (lv_at hl 1 rfl) ?_
      refine lv_iconst (v := 1) hx hb dL_law_1384 (by decide) ?_
      refine lv_iadd hx hb dL_law_1385 ?_
      refine m_sld (v := nI j) hx hb hC.hX hC.hbl hC.hbA hS (k := 4 * q + 1) (m_add rfl rfl) (by omega) hC.hL e1 dL_law_1386 ?_
      refine lv_aload_n hx hb dL_law_1387 rfl (lv_at hl 6 rfl) ?_
      refine lv_iload hx hb dL_law_1388 (lv_at hl 1 rfl) ?_
      refine lv_iconst (v := 2) hx hb dL_law_1390 (by decide) ?_
      refine lv_iadd hx hb dL_law_1391 ?_
      refine m_sld (v := xs (4 * q + 2)) hx hb hC.hX hC.hbl hC.hbA hS (k := 4 * q + 2) (m_add rfl rfl) (by omega) hC.hL rfl dL_law_1392 ?_
      refine lv_aload_n hx hb dL_law_1393 rfl (lv_at hl 6 rfl) ?_
      refine lv_iload hx hb dL_law_1394 (lv_at hl 1 rfl) ?_
      refine lv_iconst (v := 3) hx hb dL_law_1396 (by decide) ?_
      refine lv_iadd hx hb dL_law_1397 ?_
      refine m_sld (v := xs (4 * q + 3)) hx hb hC.hX hC.hbl hC.hbA hS (k := 4 * q + 3) (m_add rfl rfl) (by omega) hC.hL rfl dL_law_1398 ?_
      refine lw_m (s1 := S9) (t1 := s9) (Wn := (LCh cy a S9 S9)) hC (c_X8_litresToReachByFormula_no2 l G cy a.am a.aS a.aBf a.aAs a.aSv a.aPa a.aOu a.aTx a.aCo s9.ct s9.nb s9.LN ((s9.x0).1) s9.CM s9.hs s9.th (bI (s9.x0).2) s9.ep s9.fc s9.σ j (xs (4 * q + 2)) (xs (4 * q + 3)) hI.1.1 hj ht) (cwV 3 hC.S9.2.2.2.2 gL_law_X8_litresToReachByFormula rfl rfl rfl (by decide +kernel) ⟨Nat.le_of_ble_eq_true rfl, Nat.le_of_ble_eq_true rfl⟩) [15, 16] rfl (by decide) (SameR.cons (SameR.cons SameR.nil)) (by subst eS; rfl) hP hD hS rfl hl.1 rfl (Nat.le_of_ble_eq_true rfl) ⟨hc1, hs1⟩ dL_law_1399 (fun H locs hP hD hS => ?_)
      refine lv_istore (lv' := [(7, .int 0), (6, .int 2), (5, .int (nI (4 * q))), (4, .ref a.oD), (3, .ref a.oA), (2, .ref a.am), (1, .ref a.aX), (0, .ref b)]) hx hb dL_law_1402 hl (by decide) rfl (fun ls hl => ?_)
      refine lv_aload_n hx hb dL_law_1404 rfl (lv_at hl 5 rfl) ?_
      refine lw_thrown (s1 := S9) (t1 := S9) (k := 2) hC hP (by subst eS; rfl) hl.1 (Nat.le_of_ble_eq_true rfl) ⟨hc1, hs1⟩ dL_law_1405 ?_
      refine lv_iload hx hb dL_law_1408 (lv_at hl 1 rfl) ?_
      refine lv_icmp_eq (tgt := 1415) hx hb dL_law_1410 (by decide) (fun c_1410 => ?_) (fun c_1410 => ?_)
      rotate_left
      · exact absurd c_1410 (by decide)
      refine lv_iload hx hb dL_law_1415 (lv_at hl 1 rfl) ?_
      refine lv_if_ne (tgt := 1432) hx hb dL_law_1417 (by decide) (fun c_1417 => ?_) (fun c_1417 => ?_)
      rotate_left
      · exact absurd c_1417 (by decide)
      refine lv_goto (tgt := 2890) hx hb dL_law_1432 (by decide) ?_
      exact kk S9 H locs ls (LI.of (LI.mono hI (by omega)) (by subst eS; rfl) (by subst eS; rfl) (by subst eS; rfl) (by subst eS; rfl) (by subst eS; rfl) (by subst eS; rfl) (by subst eS; rfl) (by subst eS; rfl) (by subst eS; rfl) (by subst eS; rfl) (by subst eS; rfl) (by subst eS; rfl) (by subst eS; rfl) (by subst eS; rfl) (by subst eS; rfl)) hP hD hS (lv_sub hl [2, 3, 4, 5, 6, 7] rfl)
  · obtain ⟨S9, eS⟩ : ∃ z : LwS, z = (LwS.mk s9.σ s9.υ s9.ς s9.hs s9.ep s9.fc s9.ml 1 s9.nx s9.ct s9.nb s9.n s9.LN s9.CM s9.ρ s9.x s9.x0 s9.f s9.gk s9.g1 s9.g2 s9.g3 s9.fb s9.fB s9.fA s9.fV s9.fP s9.fO s9.g s9.fo s9.fd) := ⟨_, rfl⟩
    refine lv_aload_n hx hb dL_law_1355 rfl (lv_at hl 4 rfl) ?_
    refine lv_aload_n hx hb dL_law_1356 rfl (lv_at hl 5 rfl) ?_
    refine lv_iload hx hb dL_law_1357 (lv_at hl 0 rfl) ?_
    refine lv_iconst (v := 1) hx hb dL_law_1359 (by decide) ?_
    refine lv_iadd hx hb dL_law_1360 ?_
    refine m_sld (v := xs (4 * q + 1)) hx hb hC.hX hC.hbl hC.hbA hS (k := 4 * q + 1) (m_add rfl rfl) (by omega) hC.hL rfl dL_law_1361 ?_
    refine lv_aload_n hx hb dL_law_1362 rfl (lv_at hl 5 rfl) ?_
    refine lv_iload hx hb dL_law_1363 (lv_at hl 0 rfl) ?_
    refine lv_iconst (v := 2) hx hb dL_law_1365 (by decide) ?_
    refine lv_iadd hx hb dL_law_1366 ?_
    refine m_sld (v := xs (4 * q + 2)) hx hb hC.hX hC.hbl hC.hbA hS (k := 4 * q + 2) (m_add rfl rfl) (by omega) hC.hL rfl dL_law_1367 ?_
    refine lv_aload_n hx hb dL_law_1368 rfl (lv_at hl 5 rfl) ?_
    refine lv_iload hx hb dL_law_1369 (lv_at hl 0 rfl) ?_
    refine lv_iconst (v := 3) hx hb dL_law_1371 (by decide) ?_
    refine lv_iadd hx hb dL_law_1372 ?_
    refine m_sld (v := xs (4 * q + 3)) hx hb hC.hX hC.hbl hC.hbA hS (k := 4 * q + 3) (m_add rfl rfl) (by omega) hC.hL rfl dL_law_1373 ?_
    refine lv_aload_n hx hb dL_law_1374 rfl (lv_at hl 2 rfl) ?_
    refine lw_w (Wc := (LCh cy a s9 s9)) (Wn := (LCh cy a S9 s9)) hC (w_litresToReachByFormula_1 l G cy kS vS a.aX a.na a.tr a.sn s9.hs a.hi a.sc s9.ep s9.fc a.ob s9.σ (xs (4 * q + 1)) (xs (4 * q + 2)) (xs (4 * q + 3)) a.oA s9.fo hC.hl9 hI.1.1 hF) (vx_cwSW 5 hC.S9.2.2.2.2 gL_law_L_litresToReachByFormula rfl rfl rfl (by decide +kernel) ⟨Nat.le_of_ble_eq_true rfl, Nat.le_of_ble_eq_true rfl⟩) [0, 1, 24] rfl (by decide) (SameL.cons SameA.rf (SameL.cons SameA.rf (SameL.cons SameA.rf SameL.nil))) (by subst eS; rfl) hP hD hS rfl hl.1 rfl (Nat.le_of_ble_eq_true rfl) ⟨hc1, hs1⟩ dL_law_1375 (fun H locs hP hD hS => ?_)
    refine lv_istore (lv' := [(6, .int 1), (5, .int (nI (4 * q))), (4, .ref a.oD), (3, .ref a.oA), (2, .ref a.am), (1, .ref a.aX), (0, .ref b)]) hx hb dL_law_1378 hl (by decide) rfl (fun ls hl => ?_)
    refine lv_aload_n hx hb dL_law_1380 rfl (lv_at hl 4 rfl) ?_
    refine lv_aload_n hx hb dL_law_1381 rfl (lv_at hl 6 rfl) ?_
    refine lv_iload hx hb dL_law_1382 (lv_at hl 1 rfl) ?_
    refine lv_iconst (v := 1) hx hb dL_law_1384 (by decide) ?_
    refine lv_iadd hx hb dL_law_1385 ?_
    refine m_sld (v := xs (4 * q + 1)) hx hb hC.hX hC.hbl hC.hbA hS (k := 4 * q + 1) (m_add rfl rfl) (by omega) hC.hL rfl dL_law_1386 ?_
    refine lv_aload_n hx hb dL_law_1387 rfl (lv_at hl 6 rfl) ?_
    refine lv_iload hx hb dL_law_1388 (lv_at hl 1 rfl) ?_
    refine lv_iconst (v := 2) hx hb dL_law_1390 (by decide) ?_
    refine lv_iadd hx hb dL_law_1391 ?_
    refine m_sld (v := xs (4 * q + 2)) hx hb hC.hX hC.hbl hC.hbA hS (k := 4 * q + 2) (m_add rfl rfl) (by omega) hC.hL rfl dL_law_1392 ?_
    refine lv_aload_n hx hb dL_law_1393 rfl (lv_at hl 6 rfl) ?_
    refine lv_iload hx hb dL_law_1394 (lv_at hl 1 rfl) ?_
    refine lv_iconst (v := 3) hx hb dL_law_1396 (by decide) ?_
    refine lv_iadd hx hb dL_law_1397 ?_
    refine m_sld (v := xs (4 * q + 3)) hx hb hC.hX hC.hbl hC.hbA hS (k := 4 * q + 3) (m_add rfl rfl) (by omega) hC.hL rfl dL_law_1398 ?_
    refine lw_m (s1 := S9) (t1 := s9) (Wn := (LCh cy a S9 S9)) hC (c_X8_litresToReachByFormula_no1 l G cy a.am a.aS a.aBf a.aAs a.aSv a.aPa a.aOu a.aTx a.aCo s9.ct s9.nb s9.LN ((s9.x0).1) s9.CM s9.hs s9.th (bI (s9.x0).2) s9.ep s9.fc s9.σ (xs (4 * q + 1)) (xs (4 * q + 2)) (xs (4 * q + 3)) hI.1.1 hF) (cwV 3 hC.S9.2.2.2.2 gL_law_X8_litresToReachByFormula rfl rfl rfl (by decide +kernel) ⟨Nat.le_of_ble_eq_true rfl, Nat.le_of_ble_eq_true rfl⟩) [15, 16] rfl (by decide) (SameR.cons (SameR.cons SameR.nil)) (by subst eS; rfl) hP hD hS rfl hl.1 rfl (Nat.le_of_ble_eq_true rfl) ⟨hc1, hs1⟩ dL_law_1399 (fun H locs hP hD hS => ?_)
    refine lv_istore (lv' := [(7, .int 0), (6, .int 1), (5, .int (nI (4 * q))), (4, .ref a.oD), (3, .ref a.oA), (2, .ref a.am), (1, .ref a.aX), (0, .ref b)]) hx hb dL_law_1402 hl (by decide) rfl (fun ls hl => ?_)
    refine lv_aload_n hx hb dL_law_1404 rfl (lv_at hl 5 rfl) ?_
    refine lw_thrown (s1 := S9) (t1 := S9) (k := 1) hC hP (by subst eS; rfl) hl.1 (Nat.le_of_ble_eq_true rfl) ⟨hc1, hs1⟩ dL_law_1405 ?_
    refine lv_iload hx hb dL_law_1408 (lv_at hl 1 rfl) ?_
    refine lv_icmp_eq (tgt := 1415) hx hb dL_law_1410 (by decide) (fun c_1410 => ?_) (fun c_1410 => ?_)
    rotate_left
    · exact absurd c_1410 (by decide)
    refine lv_iload hx hb dL_law_1415 (lv_at hl 1 rfl) ?_
    refine lv_if_ne (tgt := 1432) hx hb dL_law_1417 (by decide) (fun c_1417 => ?_) (fun c_1417 => ?_)
    rotate_left
    · exact absurd c_1417 (by decide)
    refine lv_goto (tgt := 2890) hx hb dL_law_1432 (by decide) ?_
    exact kk S9 H locs ls (LI.of (LI.mono hI (by omega)) (by subst eS; rfl) (by subst eS; rfl) (by subst eS; rfl) (by subst eS; rfl) (by subst eS; rfl) (by subst eS; rfl) (by subst eS; rfl) (by subst eS; rfl) (by subst eS; rfl) (by subst eS; rfl) (by subst eS; rfl) (by subst eS; rfl) (by subst eS; rfl) (by subst eS; rfl) (by subst eS; rfl)) hP hD hS (lv_sub hl [2, 3, 4, 5, 6, 7] rfl)

set_option maxRecDepth 100000 in
set_option maxHeartbeats 4000000 in
theorem case_18 {p : Program} {l : Launch} {e : Env} {s : State} {m : MethodId} {below : List Frame} {meth : Method} {cq : Code} {G : va_G} {cy : Nat → ClassId} {kS vS : Nat → Nat} {A : Nat → Prop} {a : LA} {b L q : Nat} {xs : Nat → Int32} {Q : State → Prop} {n0 cells slots : Nat} (hC : LC l p s m meth cq G cy kS vS A b L xs) (hq : 4 * q + 4 ≤ L) (hn0 : n0 < 1000000) (hc1 : cells + 1 ≤ room_1.cells) (hs1 : slots + 6 ≤ room_1.slots) (kk : LGo p l e s m below meth cq G cy A a b q Q (n0 + 300) (cells + 1) (slots + 6) 2890) : LGo p l e s m below meth cq G cy A a b q Q n0 cells slots 1435 := by
  intro s9 H locs ls hI hP hD hS hl
  obtain ⟨hx, hb, hml, hown, hts⟩ := id hC.S9
  have hL9 := hC.hL
  have hc0 : cells + 0 ≤ room_1.cells := Nat.le_of_succ_le hc1
  have hcn : cells ≤ room_1.cells := Nat.le_of_succ_le hc1
  have hs0 : slots + 0 ≤ room_1.slots := Nat.le_trans (Nat.le_add_right slots 6) hs1
  have hsn : slots ≤ room_1.slots := Nat.le_trans (Nat.le_add_right slots 6) hs1
  have ho := hI.1.1
  have hN0 := ho.1
  have hM0 := ho.2.1
  have hE0 := ho.2.2.1
  have hnx := hI.2.2.2.2.1
  have hct := hI.2.2.2.2.2.1
  by_cases hF : inI (xs (4 * q + 1)) (nI (nB s9.σ)) = true
  · obtain ⟨j, hj, e1⟩ := ix_of (by omega) hF
    by_cases hz : mB s9.σ j = 0
    · obtain ⟨S9, eS⟩ : ∃ z : LwS, z = (LwS.mk s9.σ s9.υ s9.ς s9.hs s9.ep s9.fc s9.ml 0 s9.nx s9.ct s9.nb s9.n s9.LN s9.CM s9.ρ s9.x s9.x0 s9.f s9.gk s9.g1 s9.g2 s9.g3 s9.fb s9.fB s9.fA s9.fV s9.fP s9.fO s9.g (fun _ => vL (mB s9.σ j)) s9.fd) := ⟨_, rfl⟩
      refine lv_aload_n hx hb dL_law_1435 rfl (lv_at hl 4 rfl) ?_
      refine lv_aload_n hx hb dL_law_1436 rfl (lv_at hl 5 rfl) ?_
      refine lv_iload hx hb dL_law_1437 (lv_at hl 0 rfl) ?_
      refine lv_iconst (v := 1) hx hb dL_law_1439 (by decide) ?_
      refine lv_iadd hx hb dL_law_1440 ?_
      refine m_sld (v := nI j) hx hb hC.hX hC.hbl hC.hbA hS (k := 4 * q + 1) (m_add rfl rfl) (by omega) hC.hL e1 dL_law_1441 ?_
      refine lv_aload_n hx hb dL_law_1442 rfl (lv_at hl 2 rfl) ?_
      refine lw_w (Wc := (LCh cy a s9 s9)) (Wn := (LCh cy a S9 s9)) hC (w_isMember_ok l G cy kS vS a.aX a.na a.tr a.sn s9.hs a.hi a.sc s9.ep s9.fc a.ob s9.σ j a.oA s9.fo hI.1.1 hj) (vx_cwSW 3 hC.S9.2.2.2.2 gL_law_L_isMember rfl rfl rfl (by decide +kernel) ⟨Nat.le_of_ble_eq_true rfl, Nat.le_of_ble_eq_true rfl⟩) [0, 1, 24] rfl (by decide) (SameL.cons SameA.rf (SameL.cons SameA.rf (SameL.cons SameA.one SameL.nil))) (by subst eS; rfl) hP hD hS rfl hl.1 rfl (Nat.le_of_ble_eq_true rfl) ⟨hc0, hs0⟩ dL_law_1443 (fun H locs hP hD hS => ?_)
      refine lv_istore (lv' := [(6, .int 0), (5, .int (nI (4 * q))), (4, .ref a.oD), (3, .ref a.oA), (2, .ref a.am), (1, .ref a.aX), (0, .ref b)]) hx hb dL_law_1446 hl (by decide) rfl (fun ls hl => ?_)
      refine lv_aload_n hx hb dL_law_1448 rfl (lv_at hl 4 rfl) ?_
      refine lv_aload_n hx hb dL_law_1449 rfl (lv_at hl 6 rfl) ?_
      refine lv_iload hx hb dL_law_1450 (lv_at hl 1 rfl) ?_
      refine lv_iconst (v := 1) hx hb dL_law_1452 (by decide) ?_
      refine lv_iadd hx hb dL_law_1453 ?_
      refine m_sld (v := nI j) hx hb hC.hX hC.hbl hC.hbA hS (k := 4 * q + 1) (m_add rfl rfl) (by omega) hC.hL e1 dL_law_1454 ?_
      refine lw_m (s1 := S9) (t1 := s9) (Wn := (LCh cy a S9 S9)) hC (c_X8_isMember_ok l G cy a.am a.aS a.aBf a.aAs a.aSv a.aPa a.aOu a.aTx a.aCo s9.ct s9.nb s9.LN ((s9.x0).1) s9.CM s9.hs s9.th (bI (s9.x0).2) s9.ep s9.fc s9.σ j hI.1.1 hj) (cwV 1 hC.S9.2.2.2.2 gL_law_X8_isMember rfl rfl rfl (by decide +kernel) ⟨Nat.le_of_ble_eq_true rfl, Nat.le_of_ble_eq_true rfl⟩) [15, 16] rfl (by decide) (SameR.cons (SameR.cons SameR.nil)) (by subst eS; rfl) hP hD hS rfl hl.1 rfl (Nat.le_of_ble_eq_true rfl) ⟨hcn, hsn⟩ dL_law_1455 (fun H locs hP hD hS => ?_)
      refine lv_istore (lv' := [(7, .int (mB s9.σ j)), (6, .int 0), (5, .int (nI (4 * q))), (4, .ref a.oD), (3, .ref a.oA), (2, .ref a.am), (1, .ref a.aX), (0, .ref b)]) hx hb dL_law_1458 hl (by decide) rfl (fun ls hl => ?_)
      refine lv_aload_n hx hb dL_law_1460 rfl (lv_at hl 5 rfl) ?_
      refine lw_thrown (s1 := S9) (t1 := S9) (k := 0) hC hP (by subst eS; rfl) hl.1 (Nat.le_of_ble_eq_true rfl) ⟨hcn, hsn⟩ dL_law_1461 ?_
      refine lv_iload hx hb dL_law_1464 (lv_at hl 1 rfl) ?_
      refine lv_icmp_eq (tgt := 1471) hx hb dL_law_1466 (by decide) (fun c_1466 => ?_) (fun c_1466 => ?_)
      rotate_left
      · exact absurd c_1466 (by decide)
      refine lv_iload hx hb dL_law_1471 (lv_at hl 1 rfl) ?_
      refine lv_if_ne (tgt := 1495) hx hb dL_law_1473 (by decide) (fun c_1473 => ?_) (fun c_1473 => ?_)
      · exact absurd c_1473 (by decide)
      refine lv_aload_n hx hb dL_law_1476 rfl (lv_at hl 4 rfl) ?_
      refine lv_iconst (v := 0) hx hb dL_law_1477 (by decide) ?_
      refine lw_ldL (s1 := S9) (t1 := S9) (x := vL (mB s9.σ j)) hC hP (by subst eS; rfl) dL_law_1478 ?_
      refine lv_iload hx hb dL_law_1479 (lv_at hl 0 rfl) ?_
      refine lv_if_eq (tgt := 1488) hx hb dL_law_1481 (by decide) (fun c_1481 => ?_) (fun c_1481 => ?_)
      rotate_left
      · exact absurd hz c_1481
      refine lv_lconst (v := 0) hx hb dL_law_1488 (by decide) ?_
      refine m_lcmp0 hx hb (if_pos hz) dL_law_1489 ?_
      refine lv_if_eq (tgt := 1495) hx hb dL_law_1490 (by decide) (fun c_1490 => ?_) (fun c_1490 => ?_)
      rotate_left
      · exact absurd c_1490 (by decide)
      refine lv_goto (tgt := 2890) hx hb dL_law_1495 (by decide) ?_
      refine W.widen (k := cells + 1) (n := slots + 6) (by omega) (by omega) ?_
      exact kk S9 H locs ls (LI.of (LI.mono hI (by omega)) (by subst eS; rfl) (by subst eS; rfl) (by subst eS; rfl) (by subst eS; rfl) (by subst eS; rfl) (by subst eS; rfl) (by subst eS; rfl) (by subst eS; rfl) (by subst eS; rfl) (by subst eS; rfl) (by subst eS; rfl) (by subst eS; rfl) (by subst eS; rfl) (by subst eS; rfl) (by subst eS; rfl)) hP hD hS (lv_sub hl [2, 3, 4, 5, 6, 7] rfl)
    · obtain ⟨S9, eS⟩ : ∃ z : LwS, z = (LwS.mk s9.σ s9.υ s9.ς s9.hs s9.ep s9.fc s9.ml 0 s9.nx s9.ct s9.nb s9.n s9.LN s9.CM s9.ρ s9.x s9.x0 s9.f s9.gk s9.g1 s9.g2 s9.g3 s9.fb s9.fB s9.fA s9.fV s9.fP s9.fO s9.g (fun _ => vL (mB s9.σ j)) s9.fd) := ⟨_, rfl⟩
      refine lv_aload_n hx hb dL_law_1435 rfl (lv_at hl 4 rfl) ?_
      refine lv_aload_n hx hb dL_law_1436 rfl (lv_at hl 5 rfl) ?_
      refine lv_iload hx hb dL_law_1437 (lv_at hl 0 rfl) ?_
      refine lv_iconst (v := 1) hx hb dL_law_1439 (by decide) ?_
      refine lv_iadd hx hb dL_law_1440 ?_
      refine m_sld (v := nI j) hx hb hC.hX hC.hbl hC.hbA hS (k := 4 * q + 1) (m_add rfl rfl) (by omega) hC.hL e1 dL_law_1441 ?_
      refine lv_aload_n hx hb dL_law_1442 rfl (lv_at hl 2 rfl) ?_
      refine lw_w (Wc := (LCh cy a s9 s9)) (Wn := (LCh cy a S9 s9)) hC (w_isMember_ok l G cy kS vS a.aX a.na a.tr a.sn s9.hs a.hi a.sc s9.ep s9.fc a.ob s9.σ j a.oA s9.fo hI.1.1 hj) (vx_cwSW 3 hC.S9.2.2.2.2 gL_law_L_isMember rfl rfl rfl (by decide +kernel) ⟨Nat.le_of_ble_eq_true rfl, Nat.le_of_ble_eq_true rfl⟩) [0, 1, 24] rfl (by decide) (SameL.cons SameA.rf (SameL.cons SameA.rf (SameL.cons SameA.one SameL.nil))) (by subst eS; rfl) hP hD hS rfl hl.1 rfl (Nat.le_of_ble_eq_true rfl) ⟨hc0, hs0⟩ dL_law_1443 (fun H locs hP hD hS => ?_)
      refine lv_istore (lv' := [(6, .int 0), (5, .int (nI (4 * q))), (4, .ref a.oD), (3, .ref a.oA), (2, .ref a.am), (1, .ref a.aX), (0, .ref b)]) hx hb dL_law_1446 hl (by decide) rfl (fun ls hl => ?_)
      refine lv_aload_n hx hb dL_law_1448 rfl (lv_at hl 4 rfl) ?_
      refine lv_aload_n hx hb dL_law_1449 rfl (lv_at hl 6 rfl) ?_
      refine lv_iload hx hb dL_law_1450 (lv_at hl 1 rfl) ?_
      refine lv_iconst (v := 1) hx hb dL_law_1452 (by decide) ?_
      refine lv_iadd hx hb dL_law_1453 ?_
      refine m_sld (v := nI j) hx hb hC.hX hC.hbl hC.hbA hS (k := 4 * q + 1) (m_add rfl rfl) (by omega) hC.hL e1 dL_law_1454 ?_
      refine lw_m (s1 := S9) (t1 := s9) (Wn := (LCh cy a S9 S9)) hC (c_X8_isMember_ok l G cy a.am a.aS a.aBf a.aAs a.aSv a.aPa a.aOu a.aTx a.aCo s9.ct s9.nb s9.LN ((s9.x0).1) s9.CM s9.hs s9.th (bI (s9.x0).2) s9.ep s9.fc s9.σ j hI.1.1 hj) (cwV 1 hC.S9.2.2.2.2 gL_law_X8_isMember rfl rfl rfl (by decide +kernel) ⟨Nat.le_of_ble_eq_true rfl, Nat.le_of_ble_eq_true rfl⟩) [15, 16] rfl (by decide) (SameR.cons (SameR.cons SameR.nil)) (by subst eS; rfl) hP hD hS rfl hl.1 rfl (Nat.le_of_ble_eq_true rfl) ⟨hcn, hsn⟩ dL_law_1455 (fun H locs hP hD hS => ?_)
      refine lv_istore (lv' := [(7, .int (mB s9.σ j)), (6, .int 0), (5, .int (nI (4 * q))), (4, .ref a.oD), (3, .ref a.oA), (2, .ref a.am), (1, .ref a.aX), (0, .ref b)]) hx hb dL_law_1458 hl (by decide) rfl (fun ls hl => ?_)
      refine lv_aload_n hx hb dL_law_1460 rfl (lv_at hl 5 rfl) ?_
      refine lw_thrown (s1 := S9) (t1 := S9) (k := 0) hC hP (by subst eS; rfl) hl.1 (Nat.le_of_ble_eq_true rfl) ⟨hcn, hsn⟩ dL_law_1461 ?_
      refine lv_iload hx hb dL_law_1464 (lv_at hl 1 rfl) ?_
      refine lv_icmp_eq (tgt := 1471) hx hb dL_law_1466 (by decide) (fun c_1466 => ?_) (fun c_1466 => ?_)
      rotate_left
      · exact absurd c_1466 (by decide)
      refine lv_iload hx hb dL_law_1471 (lv_at hl 1 rfl) ?_
      refine lv_if_ne (tgt := 1495) hx hb dL_law_1473 (by decide) (fun c_1473 => ?_) (fun c_1473 => ?_)
      · exact absurd c_1473 (by decide)
      refine lv_aload_n hx hb dL_law_1476 rfl (lv_at hl 4 rfl) ?_
      refine lv_iconst (v := 0) hx hb dL_law_1477 (by decide) ?_
      refine lw_ldL (s1 := S9) (t1 := S9) (x := vL (mB s9.σ j)) hC hP (by subst eS; rfl) dL_law_1478 ?_
      refine lv_iload hx hb dL_law_1479 (lv_at hl 0 rfl) ?_
      refine lv_if_eq (tgt := 1488) hx hb dL_law_1481 (by decide) (fun c_1481 => ?_) (fun c_1481 => ?_)
      · exact absurd c_1481 hz
      refine lv_lconst (v := 1) hx hb dL_law_1484 (by decide) ?_
      refine lv_goto (tgt := 1489) hx hb dL_law_1485 (by decide) ?_
      refine m_lcmp0 hx hb (if_neg hz) dL_law_1489 ?_
      refine lv_if_eq (tgt := 1495) hx hb dL_law_1490 (by decide) (fun c_1490 => ?_) (fun c_1490 => ?_)
      rotate_left
      · exact absurd c_1490 (by decide)
      refine lv_goto (tgt := 2890) hx hb dL_law_1495 (by decide) ?_
      refine W.widen (k := cells + 1) (n := slots + 6) (by omega) (by omega) ?_
      exact kk S9 H locs ls (LI.of (LI.mono hI (by omega)) (by subst eS; rfl) (by subst eS; rfl) (by subst eS; rfl) (by subst eS; rfl) (by subst eS; rfl) (by subst eS; rfl) (by subst eS; rfl) (by subst eS; rfl) (by subst eS; rfl) (by subst eS; rfl) (by subst eS; rfl) (by subst eS; rfl) (by subst eS; rfl) (by subst eS; rfl) (by subst eS; rfl)) hP hD hS (lv_sub hl [2, 3, 4, 5, 6, 7] rfl)
  · obtain ⟨S9, eS⟩ : ∃ z : LwS, z = (LwS.mk s9.σ s9.υ s9.ς s9.hs s9.ep s9.fc s9.ml 1 s9.nx s9.ct s9.nb s9.n s9.LN s9.CM s9.ρ s9.x s9.x0 s9.f s9.gk s9.g1 s9.g2 s9.g3 s9.fb s9.fB s9.fA s9.fV s9.fP s9.fO s9.g s9.fo s9.fd) := ⟨_, rfl⟩
    refine lv_aload_n hx hb dL_law_1435 rfl (lv_at hl 4 rfl) ?_
    refine lv_aload_n hx hb dL_law_1436 rfl (lv_at hl 5 rfl) ?_
    refine lv_iload hx hb dL_law_1437 (lv_at hl 0 rfl) ?_
    refine lv_iconst (v := 1) hx hb dL_law_1439 (by decide) ?_
    refine lv_iadd hx hb dL_law_1440 ?_
    refine m_sld (v := xs (4 * q + 1)) hx hb hC.hX hC.hbl hC.hbA hS (k := 4 * q + 1) (m_add rfl rfl) (by omega) hC.hL rfl dL_law_1441 ?_
    refine lv_aload_n hx hb dL_law_1442 rfl (lv_at hl 2 rfl) ?_
    refine lw_w (Wc := (LCh cy a s9 s9)) (Wn := (LCh cy a S9 s9)) hC (w_isMember_1 l G cy kS vS a.aX a.na a.tr a.sn s9.hs a.hi a.sc s9.ep s9.fc a.ob s9.σ (xs (4 * q + 1)) a.oA s9.fo hC.hl9 hI.1.1 hF) (vx_cwSW 3 hC.S9.2.2.2.2 gL_law_L_isMember rfl rfl rfl (by decide +kernel) ⟨Nat.le_of_ble_eq_true rfl, Nat.le_of_ble_eq_true rfl⟩) [0, 1, 24] rfl (by decide) (SameL.cons SameA.rf (SameL.cons SameA.rf (SameL.cons SameA.rf SameL.nil))) (by subst eS; rfl) hP hD hS rfl hl.1 rfl (Nat.le_of_ble_eq_true rfl) ⟨hc1, hs1⟩ dL_law_1443 (fun H locs hP hD hS => ?_)
    refine lv_istore (lv' := [(6, .int 1), (5, .int (nI (4 * q))), (4, .ref a.oD), (3, .ref a.oA), (2, .ref a.am), (1, .ref a.aX), (0, .ref b)]) hx hb dL_law_1446 hl (by decide) rfl (fun ls hl => ?_)
    refine lv_aload_n hx hb dL_law_1448 rfl (lv_at hl 4 rfl) ?_
    refine lv_aload_n hx hb dL_law_1449 rfl (lv_at hl 6 rfl) ?_
    refine lv_iload hx hb dL_law_1450 (lv_at hl 1 rfl) ?_
    refine lv_iconst (v := 1) hx hb dL_law_1452 (by decide) ?_
    refine lv_iadd hx hb dL_law_1453 ?_
    refine m_sld (v := xs (4 * q + 1)) hx hb hC.hX hC.hbl hC.hbA hS (k := 4 * q + 1) (m_add rfl rfl) (by omega) hC.hL rfl dL_law_1454 ?_
    refine lw_m (s1 := S9) (t1 := s9) (Wn := (LCh cy a S9 S9)) hC (c_X8_isMember_no l G cy a.am a.aS a.aBf a.aAs a.aSv a.aPa a.aOu a.aTx a.aCo s9.ct s9.nb s9.LN ((s9.x0).1) s9.CM s9.hs s9.th (bI (s9.x0).2) s9.ep s9.fc s9.σ (xs (4 * q + 1)) hI.1.1 hF) (cwV 1 hC.S9.2.2.2.2 gL_law_X8_isMember rfl rfl rfl (by decide +kernel) ⟨Nat.le_of_ble_eq_true rfl, Nat.le_of_ble_eq_true rfl⟩) [15, 16] rfl (by decide) (SameR.cons (SameR.cons SameR.nil)) (by subst eS; rfl) hP hD hS rfl hl.1 rfl (Nat.le_of_ble_eq_true rfl) ⟨hc1, hs1⟩ dL_law_1455 (fun H locs hP hD hS => ?_)
    refine lv_istore (lv' := [(7, .int 0), (6, .int 1), (5, .int (nI (4 * q))), (4, .ref a.oD), (3, .ref a.oA), (2, .ref a.am), (1, .ref a.aX), (0, .ref b)]) hx hb dL_law_1458 hl (by decide) rfl (fun ls hl => ?_)
    refine lv_aload_n hx hb dL_law_1460 rfl (lv_at hl 5 rfl) ?_
    refine lw_thrown (s1 := S9) (t1 := S9) (k := 1) hC hP (by subst eS; rfl) hl.1 (Nat.le_of_ble_eq_true rfl) ⟨hc1, hs1⟩ dL_law_1461 ?_
    refine lv_iload hx hb dL_law_1464 (lv_at hl 1 rfl) ?_
    refine lv_icmp_eq (tgt := 1471) hx hb dL_law_1466 (by decide) (fun c_1466 => ?_) (fun c_1466 => ?_)
    rotate_left
    · exact absurd c_1466 (by decide)
    refine lv_iload hx hb dL_law_1471 (lv_at hl 1 rfl) ?_
    refine lv_if_ne (tgt := 1495) hx hb dL_law_1473 (by decide) (fun c_1473 => ?_) (fun c_1473 => ?_)
    rotate_left
    · exact absurd c_1473 (by decide)
    refine lv_goto (tgt := 2890) hx hb dL_law_1495 (by decide) ?_
    exact kk S9 H locs ls (LI.of (LI.mono hI (by omega)) (by subst eS; rfl) (by subst eS; rfl) (by subst eS; rfl) (by subst eS; rfl) (by subst eS; rfl) (by subst eS; rfl) (by subst eS; rfl) (by subst eS; rfl) (by subst eS; rfl) (by subst eS; rfl) (by subst eS; rfl) (by subst eS; rfl) (by subst eS; rfl) (by subst eS; rfl) (by subst eS; rfl)) hP hD hS (lv_sub hl [2, 3, 4, 5, 6, 7] rfl)

set_option maxRecDepth 100000 in
set_option maxHeartbeats 4000000 in
theorem case_19 {p : Program} {l : Launch} {e : Env} {s : State} {m : MethodId} {below : List Frame} {meth : Method} {cq : Code} {G : va_G} {cy : Nat → ClassId} {kS vS : Nat → Nat} {A : Nat → Prop} {a : LA} {b L q : Nat} {xs : Nat → Int32} {Q : State → Prop} {n0 cells slots : Nat} (hC : LC l p s m meth cq G cy kS vS A b L xs) (hq : 4 * q + 4 ≤ L) (hn0 : n0 < 1000000) (hc1 : cells + 1 ≤ room_1.cells) (hs1 : slots + 6 ≤ room_1.slots) (kk : LGo p l e s m below meth cq G cy A a b q Q (n0 + 300) (cells + 1) (slots + 6) 2890) : LGo p l e s m below meth cq G cy A a b q Q n0 cells slots 1498 := by
  intro s9 H locs ls hI hP hD hS hl
  obtain ⟨hx, hb, hml, hown, hts⟩ := id hC.S9
  have hL9 := hC.hL
  have hc0 : cells + 0 ≤ room_1.cells := Nat.le_of_succ_le hc1
  have hcn : cells ≤ room_1.cells := Nat.le_of_succ_le hc1
  have hs0 : slots + 0 ≤ room_1.slots := Nat.le_trans (Nat.le_add_right slots 6) hs1
  have hsn : slots ≤ room_1.slots := Nat.le_trans (Nat.le_add_right slots 6) hs1
  have ho := hI.1.1
  have hN0 := ho.1
  have hM0 := ho.2.1
  have hE0 := ho.2.2.1
  have hnx := hI.2.2.2.2.1
  have hct := hI.2.2.2.2.2.1
  obtain ⟨S9, eS⟩ : ∃ z : LwS, z = (LwS.mk s9.σ s9.υ s9.ς s9.hs s9.ep s9.fc s9.ml 0 s9.nx s9.ct s9.nb s9.n s9.LN s9.CM s9.ρ s9.x s9.x0 s9.f s9.gk s9.g1 s9.g2 s9.g3 s9.fb s9.fB s9.fA s9.fV s9.fP s9.fO s9.g s9.fo s9.fd) := ⟨_, rfl⟩
  refine lv_aload_n hx hb dL_law_1498 rfl (lv_at hl 4 rfl) ?_
  refine c_roVi hC.S9 (c_X7_memberCount l G cy a.aX a.na a.tr a.sn s9.hs a.hi a.sc s9.ep s9.fc a.ob s9.σ hI.1.1) (cwV 0 hC.S9.2.2.2.2 gL_law_X7_memberCount rfl rfl rfl (by decide +kernel) ⟨Nat.le_of_ble_eq_true rfl, Nat.le_of_ble_eq_true rfl⟩) PB.blind (va_recv hC.hK.1 hP (ci := 11) (q0 := offs (LCh cy a s9 s9) 0 + 0) rfl ((fl_at (Wc := (LCh cy a s9 s9)) (j := 0) (i := 0) (c := [(a.aX, .inr (11, [.ref (a.na 0), .ref (a.tr 0), .ref (a.sn 0), .int s9.hs, .ref a.hi, .ref a.sc, .int s9.ep, .int s9.fc, .ref a.ob]))]) rfl (Nat.le_of_ble_eq_true rfl)).trans rfl)) (PB.at hC.hK (PpartC (Wc := (LCh cy a s9 s9)) (cs := [[(a.aX, .inr (11, [.ref (a.na 0), .ref (a.tr 0), .ref (a.sn 0), .int s9.hs, .ref a.hi, .ref a.sc, .int s9.ep, .int s9.fc, .ref a.ob]))], sWd cy a.na s9.σ]) hP [0, 1] rfl)) rfl hl.1 rfl (Nat.le_of_ble_eq_true rfl) ⟨hcn, hsn⟩ dL_law_1499 ?_
  refine lv_aload_n hx hb dL_law_1502 rfl (lv_at hl 3 rfl) ?_
  refine lw_m (s1 := s9) (t1 := s9) (Wn := (LCh cy a s9 S9)) hC (c_X8_memberCount l G cy a.am a.aS a.aBf a.aAs a.aSv a.aPa a.aOu a.aTx a.aCo s9.ct s9.nb s9.LN ((s9.x0).1) s9.CM s9.hs s9.th (bI (s9.x0).2) s9.ep s9.fc s9.σ hI.1.1) (cwV 0 hC.S9.2.2.2.2 gL_law_X8_memberCount rfl rfl rfl (by decide +kernel) ⟨Nat.le_of_ble_eq_true rfl, Nat.le_of_ble_eq_true rfl⟩) [15, 16] rfl (by decide) (SameR.cons (SameR.cons SameR.nil)) (by subst eS; rfl) hP hD hS rfl hl.1 rfl (Nat.le_of_ble_eq_true rfl) ⟨hcn, hsn⟩ dL_law_1503 (fun H locs hP hD hS => ?_)
  refine lv_icmp_eq (tgt := 2890) hx hb dL_law_1506 (by decide) (fun c_1506 => ?_) (fun c_1506 => ?_)
  rotate_left
  · exact absurd rfl c_1506
  have hP : va_P G vwCl (fl (LCh cy a S9 S9)) H := by rw [LCh.left (s := s9) (by subst eS; rfl) (by subst eS; rfl) (by subst eS; rfl) (by subst eS; rfl) (by subst eS; rfl) (by subst eS; rfl) (by subst eS; rfl) (by subst eS; rfl) (by subst eS; rfl) (by subst eS; rfl) (by subst eS; rfl) (by subst eS; rfl) (by subst eS; rfl) (by subst eS; rfl) (by subst eS; rfl) (by subst eS; rfl) (by subst eS; rfl) (by subst eS; rfl) (by subst eS; rfl) (by subst eS; rfl) (by subst eS; rfl) (by subst eS; rfl)]; exact hP
  have hD : va_D A (fl (LCh cy a S9 S9)) := by rw [LCh.left (s := s9) (by subst eS; rfl) (by subst eS; rfl) (by subst eS; rfl) (by subst eS; rfl) (by subst eS; rfl) (by subst eS; rfl) (by subst eS; rfl) (by subst eS; rfl) (by subst eS; rfl) (by subst eS; rfl) (by subst eS; rfl) (by subst eS; rfl) (by subst eS; rfl) (by subst eS; rfl) (by subst eS; rfl) (by subst eS; rfl) (by subst eS; rfl) (by subst eS; rfl) (by subst eS; rfl) (by subst eS; rfl) (by subst eS; rfl) (by subst eS; rfl)]; exact hD
  refine W.widen (k := cells + 1) (n := slots + 6) (by omega) (by omega) ?_
  exact kk S9 H locs ls (LI.of (LI.mono hI (by omega)) (by subst eS; rfl) (by subst eS; rfl) (by subst eS; rfl) (by subst eS; rfl) (by subst eS; rfl) (by subst eS; rfl) (by subst eS; rfl) (by subst eS; rfl) (by subst eS; rfl) (by subst eS; rfl) (by subst eS; rfl) (by subst eS; rfl) (by subst eS; rfl) (by subst eS; rfl) (by subst eS; rfl)) hP hD hS (lv_sub hl [0, 1, 2, 3, 4, 5] rfl)

set_option maxRecDepth 100000 in
set_option maxHeartbeats 4000000 in
theorem case_20 {p : Program} {l : Launch} {e : Env} {s : State} {m : MethodId} {below : List Frame} {meth : Method} {cq : Code} {G : va_G} {cy : Nat → ClassId} {kS vS : Nat → Nat} {A : Nat → Prop} {a : LA} {b L q : Nat} {xs : Nat → Int32} {Q : State → Prop} {n0 cells slots : Nat} (hC : LC l p s m meth cq G cy kS vS A b L xs) (hq : 4 * q + 4 ≤ L) (hn0 : n0 < 1000000) (hc1 : cells + 1 ≤ room_1.cells) (hs1 : slots + 6 ≤ room_1.slots) (kk : LGo p l e s m below meth cq G cy A a b q Q (n0 + 300) (cells + 1) (slots + 6) 2890) : LGo p l e s m below meth cq G cy A a b q Q n0 cells slots 1511 := by
  intro s9 H locs ls hI hP hD hS hl
  obtain ⟨hx, hb, hml, hown, hts⟩ := id hC.S9
  have hL9 := hC.hL
  have hc0 : cells + 0 ≤ room_1.cells := Nat.le_of_succ_le hc1
  have hcn : cells ≤ room_1.cells := Nat.le_of_succ_le hc1
  have hs0 : slots + 0 ≤ room_1.slots := Nat.le_trans (Nat.le_add_right slots 6) hs1
  have hsn : slots ≤ room_1.slots := Nat.le_trans (Nat.le_add_right slots 6) hs1
  have ho := hI.1.1
  have hN0 := ho.1
  have hM0 := ho.2.1
  have hE0 := ho.2.2.1
  have hnx := hI.2.2.2.2.1
  have hct := hI.2.2.2.2.2.1
  obtain ⟨S9, eS⟩ : ∃ z : LwS, z = (LwS.mk s9.σ s9.υ s9.ς s9.hs s9.ep s9.fc s9.ml 0 s9.nx s9.ct s9.nb s9.n s9.LN s9.CM s9.ρ s9.x s9.x0 s9.f s9.gk s9.g1 s9.g2 s9.g3 s9.fb s9.fB s9.fA s9.fV s9.fP s9.fO s9.g s9.fo s9.fd) := ⟨_, rfl⟩
  refine lv_aload_n hx hb dL_law_1511 rfl (lv_at hl 4 rfl) ?_
  refine c_roVi hC.S9 (c_X7_leagueHeat l G cy a.aX a.na a.tr a.sn s9.hs a.hi a.sc s9.ep s9.fc a.ob s9.σ hI.1.1) (cwV 0 hC.S9.2.2.2.2 gL_law_X7_leagueHeat rfl rfl rfl (by decide +kernel) ⟨Nat.le_of_ble_eq_true rfl, Nat.le_of_ble_eq_true rfl⟩) PB.blind (va_recv hC.hK.1 hP (ci := 11) (q0 := offs (LCh cy a s9 s9) 0 + 0) rfl ((fl_at (Wc := (LCh cy a s9 s9)) (j := 0) (i := 0) (c := [(a.aX, .inr (11, [.ref (a.na 0), .ref (a.tr 0), .ref (a.sn 0), .int s9.hs, .ref a.hi, .ref a.sc, .int s9.ep, .int s9.fc, .ref a.ob]))]) rfl (Nat.le_of_ble_eq_true rfl)).trans rfl)) (PB.at hC.hK (PpartC (Wc := (LCh cy a s9 s9)) (cs := [[(a.aX, .inr (11, [.ref (a.na 0), .ref (a.tr 0), .ref (a.sn 0), .int s9.hs, .ref a.hi, .ref a.sc, .int s9.ep, .int s9.fc, .ref a.ob]))], sWd cy a.na s9.σ]) hP [0, 1] rfl)) rfl hl.1 rfl (Nat.le_of_ble_eq_true rfl) ⟨hcn, hsn⟩ dL_law_1512 ?_
  refine lv_aload_n hx hb dL_law_1515 rfl (lv_at hl 3 rfl) ?_
  refine lw_m (s1 := s9) (t1 := s9) (Wn := (LCh cy a s9 S9)) hC (c_X8_leagueHeat l G cy a.am a.aS a.aBf a.aAs a.aSv a.aPa a.aOu a.aTx a.aCo s9.ct s9.nb s9.LN ((s9.x0).1) s9.CM s9.hs s9.th (bI (s9.x0).2) s9.ep s9.fc s9.σ hI.1.1) (cwV 0 hC.S9.2.2.2.2 gL_law_X8_leagueHeat rfl rfl rfl (by decide +kernel) ⟨Nat.le_of_ble_eq_true rfl, Nat.le_of_ble_eq_true rfl⟩) [15, 16] rfl (by decide) (SameR.cons (SameR.cons SameR.nil)) (by subst eS; rfl) hP hD hS rfl hl.1 rfl (Nat.le_of_ble_eq_true rfl) ⟨hcn, hsn⟩ dL_law_1516 (fun H locs hP hD hS => ?_)
  refine lv_icmp_eq (tgt := 2890) hx hb dL_law_1519 (by decide) (fun c_1519 => ?_) (fun c_1519 => ?_)
  rotate_left
  · exact absurd rfl c_1519
  have hP : va_P G vwCl (fl (LCh cy a S9 S9)) H := by rw [LCh.left (s := s9) (by subst eS; rfl) (by subst eS; rfl) (by subst eS; rfl) (by subst eS; rfl) (by subst eS; rfl) (by subst eS; rfl) (by subst eS; rfl) (by subst eS; rfl) (by subst eS; rfl) (by subst eS; rfl) (by subst eS; rfl) (by subst eS; rfl) (by subst eS; rfl) (by subst eS; rfl) (by subst eS; rfl) (by subst eS; rfl) (by subst eS; rfl) (by subst eS; rfl) (by subst eS; rfl) (by subst eS; rfl) (by subst eS; rfl) (by subst eS; rfl)]; exact hP
  have hD : va_D A (fl (LCh cy a S9 S9)) := by rw [LCh.left (s := s9) (by subst eS; rfl) (by subst eS; rfl) (by subst eS; rfl) (by subst eS; rfl) (by subst eS; rfl) (by subst eS; rfl) (by subst eS; rfl) (by subst eS; rfl) (by subst eS; rfl) (by subst eS; rfl) (by subst eS; rfl) (by subst eS; rfl) (by subst eS; rfl) (by subst eS; rfl) (by subst eS; rfl) (by subst eS; rfl) (by subst eS; rfl) (by subst eS; rfl) (by subst eS; rfl) (by subst eS; rfl) (by subst eS; rfl) (by subst eS; rfl)]; exact hD
  refine W.widen (k := cells + 1) (n := slots + 6) (by omega) (by omega) ?_
  exact kk S9 H locs ls (LI.of (LI.mono hI (by omega)) (by subst eS; rfl) (by subst eS; rfl) (by subst eS; rfl) (by subst eS; rfl) (by subst eS; rfl) (by subst eS; rfl) (by subst eS; rfl) (by subst eS; rfl) (by subst eS; rfl) (by subst eS; rfl) (by subst eS; rfl) (by subst eS; rfl) (by subst eS; rfl) (by subst eS; rfl) (by subst eS; rfl)) hP hD hS (lv_sub hl [0, 1, 2, 3, 4, 5] rfl)

set_option maxRecDepth 100000 in
set_option maxHeartbeats 4000000 in
theorem case_21 {p : Program} {l : Launch} {e : Env} {s : State} {m : MethodId} {below : List Frame} {meth : Method} {cq : Code} {G : va_G} {cy : Nat → ClassId} {kS vS : Nat → Nat} {A : Nat → Prop} {a : LA} {b L q : Nat} {xs : Nat → Int32} {Q : State → Prop} {n0 cells slots : Nat} (hC : LC l p s m meth cq G cy kS vS A b L xs) (hq : 4 * q + 4 ≤ L) (hn0 : n0 < 1000000) (hc1 : cells + 1 ≤ room_1.cells) (hs1 : slots + 6 ≤ room_1.slots) (kk : LGo p l e s m below meth cq G cy A a b q Q (n0 + 300) (cells + 1) (slots + 6) 2890) : LGo p l e s m below meth cq G cy A a b q Q n0 cells slots 1524 := by
  intro s9 H locs ls hI hP hD hS hl
  obtain ⟨hx, hb, hml, hown, hts⟩ := id hC.S9
  have hL9 := hC.hL
  have hc0 : cells + 0 ≤ room_1.cells := Nat.le_of_succ_le hc1
  have hcn : cells ≤ room_1.cells := Nat.le_of_succ_le hc1
  have hs0 : slots + 0 ≤ room_1.slots := Nat.le_trans (Nat.le_add_right slots 6) hs1
  have hsn : slots ≤ room_1.slots := Nat.le_trans (Nat.le_add_right slots 6) hs1
  have ho := hI.1.1
  have hN0 := ho.1
  have hM0 := ho.2.1
  have hE0 := ho.2.2.1
  have hnx := hI.2.2.2.2.1
  have hct := hI.2.2.2.2.2.1
  obtain ⟨S9, eS⟩ : ∃ z : LwS, z = (LwS.mk s9.σ s9.υ s9.ς s9.hs s9.ep s9.fc s9.ml 0 s9.nx s9.ct s9.nb s9.n s9.LN s9.CM s9.ρ s9.x s9.x0 s9.f s9.gk s9.g1 s9.g2 s9.g3 s9.fb s9.fB s9.fA s9.fV s9.fP s9.fO s9.g s9.fo s9.fd) := ⟨_, rfl⟩
  refine lv_aload_n hx hb dL_law_1524 rfl (lv_at hl 4 rfl) ?_
  refine c_roVi hC.S9 (c_X7_leagueHeatByOthers l G cy a.aX a.na a.tr a.sn s9.hs a.hi a.sc s9.ep s9.fc a.ob s9.σ hI.1.1) (cwV 0 hC.S9.2.2.2.2 gL_law_X7_leagueHeatByOthers rfl rfl rfl (by decide +kernel) ⟨Nat.le_of_ble_eq_true rfl, Nat.le_of_ble_eq_true rfl⟩) PB.blind (va_recv hC.hK.1 hP (ci := 11) (q0 := offs (LCh cy a s9 s9) 0 + 0) rfl ((fl_at (Wc := (LCh cy a s9 s9)) (j := 0) (i := 0) (c := [(a.aX, .inr (11, [.ref (a.na 0), .ref (a.tr 0), .ref (a.sn 0), .int s9.hs, .ref a.hi, .ref a.sc, .int s9.ep, .int s9.fc, .ref a.ob]))]) rfl (Nat.le_of_ble_eq_true rfl)).trans rfl)) (PB.at hC.hK (PpartC (Wc := (LCh cy a s9 s9)) (cs := [[(a.aX, .inr (11, [.ref (a.na 0), .ref (a.tr 0), .ref (a.sn 0), .int s9.hs, .ref a.hi, .ref a.sc, .int s9.ep, .int s9.fc, .ref a.ob]))], sWd cy a.na s9.σ]) hP [0, 1] rfl)) rfl hl.1 rfl (Nat.le_of_ble_eq_true rfl) ⟨hcn, hsn⟩ dL_law_1525 ?_
  refine lv_aload_n hx hb dL_law_1528 rfl (lv_at hl 3 rfl) ?_
  refine lw_m (s1 := s9) (t1 := s9) (Wn := (LCh cy a s9 S9)) hC (c_X8_leagueHeatByOthers l G cy a.am a.aS a.aBf a.aAs a.aSv a.aPa a.aOu a.aTx a.aCo s9.ct s9.nb s9.LN ((s9.x0).1) s9.CM s9.hs s9.th (bI (s9.x0).2) s9.ep s9.fc s9.σ hI.1.1) (cwV 0 hC.S9.2.2.2.2 gL_law_X8_leagueHeatByOthers rfl rfl rfl (by decide +kernel) ⟨Nat.le_of_ble_eq_true rfl, Nat.le_of_ble_eq_true rfl⟩) [15, 16] rfl (by decide) (SameR.cons (SameR.cons SameR.nil)) (by subst eS; rfl) hP hD hS rfl hl.1 rfl (Nat.le_of_ble_eq_true rfl) ⟨hcn, hsn⟩ dL_law_1529 (fun H locs hP hD hS => ?_)
  refine lv_icmp_eq (tgt := 2890) hx hb dL_law_1532 (by decide) (fun c_1532 => ?_) (fun c_1532 => ?_)
  rotate_left
  · exact absurd (sum_M _ _ _).symm c_1532
  have hP : va_P G vwCl (fl (LCh cy a S9 S9)) H := by rw [LCh.left (s := s9) (by subst eS; rfl) (by subst eS; rfl) (by subst eS; rfl) (by subst eS; rfl) (by subst eS; rfl) (by subst eS; rfl) (by subst eS; rfl) (by subst eS; rfl) (by subst eS; rfl) (by subst eS; rfl) (by subst eS; rfl) (by subst eS; rfl) (by subst eS; rfl) (by subst eS; rfl) (by subst eS; rfl) (by subst eS; rfl) (by subst eS; rfl) (by subst eS; rfl) (by subst eS; rfl) (by subst eS; rfl) (by subst eS; rfl) (by subst eS; rfl)]; exact hP
  have hD : va_D A (fl (LCh cy a S9 S9)) := by rw [LCh.left (s := s9) (by subst eS; rfl) (by subst eS; rfl) (by subst eS; rfl) (by subst eS; rfl) (by subst eS; rfl) (by subst eS; rfl) (by subst eS; rfl) (by subst eS; rfl) (by subst eS; rfl) (by subst eS; rfl) (by subst eS; rfl) (by subst eS; rfl) (by subst eS; rfl) (by subst eS; rfl) (by subst eS; rfl) (by subst eS; rfl) (by subst eS; rfl) (by subst eS; rfl) (by subst eS; rfl) (by subst eS; rfl) (by subst eS; rfl) (by subst eS; rfl)]; exact hD
  refine W.widen (k := cells + 1) (n := slots + 6) (by omega) (by omega) ?_
  exact kk S9 H locs ls (LI.of (LI.mono hI (by omega)) (by subst eS; rfl) (by subst eS; rfl) (by subst eS; rfl) (by subst eS; rfl) (by subst eS; rfl) (by subst eS; rfl) (by subst eS; rfl) (by subst eS; rfl) (by subst eS; rfl) (by subst eS; rfl) (by subst eS; rfl) (by subst eS; rfl) (by subst eS; rfl) (by subst eS; rfl) (by subst eS; rfl)) hP hD hS (lv_sub hl [0, 1, 2, 3, 4, 5] rfl)

set_option maxRecDepth 100000 in
set_option maxHeartbeats 4000000 in
theorem case_22 {p : Program} {l : Launch} {e : Env} {s : State} {m : MethodId} {below : List Frame} {meth : Method} {cq : Code} {G : va_G} {cy : Nat → ClassId} {kS vS : Nat → Nat} {A : Nat → Prop} {a : LA} {b L q : Nat} {xs : Nat → Int32} {Q : State → Prop} {n0 cells slots : Nat} (hC : LC l p s m meth cq G cy kS vS A b L xs) (hq : 4 * q + 4 ≤ L) (hn0 : n0 < 1000000) (hc1 : cells + 1 ≤ room_1.cells) (hs1 : slots + 6 ≤ room_1.slots) (kk : LGo p l e s m below meth cq G cy A a b q Q (n0 + 300) (cells + 1) (slots + 6) 2890) : LGo p l e s m below meth cq G cy A a b q Q n0 cells slots 1537 := by
  intro s9 H locs ls hI hP hD hS hl
  obtain ⟨hx, hb, hml, hown, hts⟩ := id hC.S9
  have hL9 := hC.hL
  have hc0 : cells + 0 ≤ room_1.cells := Nat.le_of_succ_le hc1
  have hcn : cells ≤ room_1.cells := Nat.le_of_succ_le hc1
  have hs0 : slots + 0 ≤ room_1.slots := Nat.le_trans (Nat.le_add_right slots 6) hs1
  have hsn : slots ≤ room_1.slots := Nat.le_trans (Nat.le_add_right slots 6) hs1
  have ho := hI.1.1
  have hN0 := ho.1
  have hM0 := ho.2.1
  have hE0 := ho.2.2.1
  have hnx := hI.2.2.2.2.1
  have hct := hI.2.2.2.2.2.1
  cases hO : hotO (vB s9.σ) (hB s9.σ) (mB s9.σ) (nB s9.σ) with
  | none =>
    obtain ⟨S9, eS⟩ : ∃ z : LwS, z = (LwS.mk s9.σ s9.υ s9.ς s9.hs s9.ep s9.fc s9.ml 1 s9.nx s9.ct s9.nb s9.n s9.LN s9.CM s9.ρ s9.x s9.x0 s9.f s9.gk s9.g1 s9.g2 s9.g3 s9.fb s9.fB s9.fA s9.fV s9.fP s9.fO s9.g s9.fo s9.fd) := ⟨_, rfl⟩
    refine lv_aload_n hx hb dL_law_1537 rfl (lv_at hl 4 rfl) ?_
    refine lv_aload_n hx hb dL_law_1538 rfl (lv_at hl 2 rfl) ?_
    refine lw_w (Wc := (LCh cy a s9 s9)) (Wn := (LCh cy a S9 s9)) hC (w_warmestMember_t l G cy kS vS a.aX a.na a.tr a.sn s9.hs a.hi a.sc s9.ep s9.fc a.ob s9.σ a.oA s9.fo hC.hl9 hI.1.1 hO) (vx_cwSW 2 hC.S9.2.2.2.2 gL_law_L_warmestMember rfl rfl rfl (by decide +kernel) ⟨Nat.le_of_ble_eq_true rfl, Nat.le_of_ble_eq_true rfl⟩) [0, 1, 24] rfl (by decide) (SameL.cons SameA.rf (SameL.cons SameA.rf (SameL.cons SameA.rf SameL.nil))) (by subst eS; rfl) hP hD hS rfl hl.1 rfl (Nat.le_of_ble_eq_true rfl) ⟨hc1, hs1⟩ dL_law_1539 (fun H locs hP hD hS => ?_)
    refine lv_istore (lv' := [(6, .int 1), (5, .int (nI (4 * q))), (4, .ref a.oD), (3, .ref a.oA), (2, .ref a.am), (1, .ref a.aX), (0, .ref b)]) hx hb dL_law_1542 hl (by decide) rfl (fun ls hl => ?_)
    refine lv_aload_n hx hb dL_law_1544 rfl (lv_at hl 4 rfl) ?_
    refine lw_m (s1 := S9) (t1 := s9) (Wn := (LCh cy a S9 S9)) hC (c_X8_warmestMember_no l G cy a.am a.aS a.aBf a.aAs a.aSv a.aPa a.aOu a.aTx a.aCo s9.ct s9.nb s9.LN ((s9.x0).1) s9.CM s9.hs s9.th (bI (s9.x0).2) s9.ep s9.fc s9.σ hI.1.1 hI.1.bd hO) (cwV 0 hC.S9.2.2.2.2 gL_law_X8_warmestMember rfl rfl rfl (by decide +kernel) ⟨Nat.le_of_ble_eq_true rfl, Nat.le_of_ble_eq_true rfl⟩) [15, 16] rfl (by decide) (SameR.cons (SameR.cons SameR.nil)) (by subst eS; rfl) hP hD hS rfl hl.1 rfl (Nat.le_of_ble_eq_true rfl) ⟨hc1, hs1⟩ dL_law_1545 (fun H locs hP hD hS => ?_)
    refine lv_istore (lv' := [(7, .int 0), (6, .int 1), (5, .int (nI (4 * q))), (4, .ref a.oD), (3, .ref a.oA), (2, .ref a.am), (1, .ref a.aX), (0, .ref b)]) hx hb dL_law_1548 hl (by decide) rfl (fun ls hl => ?_)
    refine lv_aload_n hx hb dL_law_1550 rfl (lv_at hl 5 rfl) ?_
    refine lw_thrown (s1 := S9) (t1 := S9) (k := 1) hC hP (by subst eS; rfl) hl.1 (Nat.le_of_ble_eq_true rfl) ⟨hc1, hs1⟩ dL_law_1551 ?_
    refine lv_iload hx hb dL_law_1554 (lv_at hl 1 rfl) ?_
    refine lv_icmp_eq (tgt := 1561) hx hb dL_law_1556 (by decide) (fun c_1556 => ?_) (fun c_1556 => ?_)
    rotate_left
    · exact absurd c_1556 (by decide)
    refine lv_iload hx hb dL_law_1561 (lv_at hl 1 rfl) ?_
    refine lv_if_ne (tgt := 1578) hx hb dL_law_1563 (by decide) (fun c_1563 => ?_) (fun c_1563 => ?_)
    rotate_left
    · exact absurd c_1563 (by decide)
    refine lv_goto (tgt := 2890) hx hb dL_law_1578 (by decide) ?_
    exact kk S9 H locs ls (LI.of (LI.mono hI (by omega)) (by subst eS; rfl) (by subst eS; rfl) (by subst eS; rfl) (by subst eS; rfl) (by subst eS; rfl) (by subst eS; rfl) (by subst eS; rfl) (by subst eS; rfl) (by subst eS; rfl) (by subst eS; rfl) (by subst eS; rfl) (by subst eS; rfl) (by subst eS; rfl) (by subst eS; rfl) (by subst eS; rfl)) hP hD hS (lv_sub hl [2, 3, 4, 5, 6, 7] rfl)
  | some j =>
    obtain ⟨S9, eS⟩ : ∃ z : LwS, z = (LwS.mk s9.σ s9.υ s9.ς s9.hs s9.ep s9.fc s9.ml 0 s9.nx s9.ct s9.nb s9.n s9.LN s9.CM s9.ρ s9.x s9.x0 s9.f s9.gk s9.g1 s9.g2 s9.g3 s9.fb s9.fB s9.fA s9.fV s9.fP s9.fO s9.g (fun _ => (nI j).toInt64) s9.fd) := ⟨_, rfl⟩
    refine lv_aload_n hx hb dL_law_1537 rfl (lv_at hl 4 rfl) ?_
    refine lv_aload_n hx hb dL_law_1538 rfl (lv_at hl 2 rfl) ?_
    refine lw_w (Wc := (LCh cy a s9 s9)) (Wn := (LCh cy a S9 s9)) hC (w_warmestMember_ok l G cy kS vS a.aX a.na a.tr a.sn s9.hs a.hi a.sc s9.ep s9.fc a.ob s9.σ j a.oA s9.fo hI.1.1 hO) (vx_cwSW 2 hC.S9.2.2.2.2 gL_law_L_warmestMember rfl rfl rfl (by decide +kernel) ⟨Nat.le_of_ble_eq_true rfl, Nat.le_of_ble_eq_true rfl⟩) [0, 1, 24] rfl (by decide) (SameL.cons SameA.rf (SameL.cons SameA.rf (SameL.cons SameA.one SameL.nil))) (by subst eS; rfl) hP hD hS rfl hl.1 rfl (Nat.le_of_ble_eq_true rfl) ⟨hc0, hs0⟩ dL_law_1539 (fun H locs hP hD hS => ?_)
    refine lv_istore (lv' := [(6, .int 0), (5, .int (nI (4 * q))), (4, .ref a.oD), (3, .ref a.oA), (2, .ref a.am), (1, .ref a.aX), (0, .ref b)]) hx hb dL_law_1542 hl (by decide) rfl (fun ls hl => ?_)
    refine lv_aload_n hx hb dL_law_1544 rfl (lv_at hl 4 rfl) ?_
    refine lw_m (s1 := S9) (t1 := s9) (Wn := (LCh cy a S9 S9)) hC (c_X8_warmestMember_ok l G cy a.am a.aS a.aBf a.aAs a.aSv a.aPa a.aOu a.aTx a.aCo s9.ct s9.nb s9.LN ((s9.x0).1) s9.CM s9.hs s9.th (bI (s9.x0).2) s9.ep s9.fc s9.σ j hI.1.1 hI.1.bd hO) (cwV 0 hC.S9.2.2.2.2 gL_law_X8_warmestMember rfl rfl rfl (by decide +kernel) ⟨Nat.le_of_ble_eq_true rfl, Nat.le_of_ble_eq_true rfl⟩) [15, 16] rfl (by decide) (SameR.cons (SameR.cons SameR.nil)) (by subst eS; rfl) hP hD hS rfl hl.1 rfl (Nat.le_of_ble_eq_true rfl) ⟨hcn, hsn⟩ dL_law_1545 (fun H locs hP hD hS => ?_)
    refine lv_istore (lv' := [(7, .int (nI j)), (6, .int 0), (5, .int (nI (4 * q))), (4, .ref a.oD), (3, .ref a.oA), (2, .ref a.am), (1, .ref a.aX), (0, .ref b)]) hx hb dL_law_1548 hl (by decide) rfl (fun ls hl => ?_)
    refine lv_aload_n hx hb dL_law_1550 rfl (lv_at hl 5 rfl) ?_
    refine lw_thrown (s1 := S9) (t1 := S9) (k := 0) hC hP (by subst eS; rfl) hl.1 (Nat.le_of_ble_eq_true rfl) ⟨hcn, hsn⟩ dL_law_1551 ?_
    refine lv_iload hx hb dL_law_1554 (lv_at hl 1 rfl) ?_
    refine lv_icmp_eq (tgt := 1561) hx hb dL_law_1556 (by decide) (fun c_1556 => ?_) (fun c_1556 => ?_)
    rotate_left
    · exact absurd c_1556 (by decide)
    refine lv_iload hx hb dL_law_1561 (lv_at hl 1 rfl) ?_
    refine lv_if_ne (tgt := 1578) hx hb dL_law_1563 (by decide) (fun c_1563 => ?_) (fun c_1563 => ?_)
    · exact absurd c_1563 (by decide)
    refine lv_aload_n hx hb dL_law_1566 rfl (lv_at hl 4 rfl) ?_
    refine lv_iconst (v := 0) hx hb dL_law_1567 (by decide) ?_
    refine lw_ldL (s1 := S9) (t1 := S9) (x := (nI j).toInt64) hC hP (by subst eS; rfl) dL_law_1568 ?_
    refine lv_iload hx hb dL_law_1569 (lv_at hl 0 rfl) ?_
    refine lv_i2l hx hb dL_law_1571 rfl ?_
    refine m_lcmp0 hx hb rfl dL_law_1572 ?_
    refine lv_if_eq (tgt := 1578) hx hb dL_law_1573 (by decide) (fun c_1573 => ?_) (fun c_1573 => ?_)
    rotate_left
    · exact absurd c_1573 (by decide)
    refine lv_goto (tgt := 2890) hx hb dL_law_1578 (by decide) ?_
    refine W.widen (k := cells + 1) (n := slots + 6) (by omega) (by omega) ?_
    exact kk S9 H locs ls (LI.of (LI.mono hI (by omega)) (by subst eS; rfl) (by subst eS; rfl) (by subst eS; rfl) (by subst eS; rfl) (by subst eS; rfl) (by subst eS; rfl) (by subst eS; rfl) (by subst eS; rfl) (by subst eS; rfl) (by subst eS; rfl) (by subst eS; rfl) (by subst eS; rfl) (by subst eS; rfl) (by subst eS; rfl) (by subst eS; rfl)) hP hD hS (lv_sub hl [2, 3, 4, 5, 6, 7] rfl)

set_option maxRecDepth 100000 in
set_option maxHeartbeats 4000000 in
theorem case_23 {p : Program} {l : Launch} {e : Env} {s : State} {m : MethodId} {below : List Frame} {meth : Method} {cq : Code} {G : va_G} {cy : Nat → ClassId} {kS vS : Nat → Nat} {A : Nat → Prop} {a : LA} {b L q : Nat} {xs : Nat → Int32} {Q : State → Prop} {n0 cells slots : Nat} (hC : LC l p s m meth cq G cy kS vS A b L xs) (hq : 4 * q + 4 ≤ L) (hn0 : n0 < 1000000) (hc1 : cells + 1 ≤ room_1.cells) (hs1 : slots + 6 ≤ room_1.slots) (kk : LGo p l e s m below meth cq G cy A a b q Q (n0 + 300) (cells + 1) (slots + 6) 2890) : LGo p l e s m below meth cq G cy A a b q Q n0 cells slots 1581 := by
  intro s9 H locs ls hI hP hD hS hl
  obtain ⟨hx, hb, hml, hown, hts⟩ := id hC.S9
  have hL9 := hC.hL
  have hc0 : cells + 0 ≤ room_1.cells := Nat.le_of_succ_le hc1
  have hcn : cells ≤ room_1.cells := Nat.le_of_succ_le hc1
  have hs0 : slots + 0 ≤ room_1.slots := Nat.le_trans (Nat.le_add_right slots 6) hs1
  have hsn : slots ≤ room_1.slots := Nat.le_trans (Nat.le_add_right slots 6) hs1
  have ho := hI.1.1
  have hN0 := ho.1
  have hM0 := ho.2.1
  have hE0 := ho.2.2.1
  have hnx := hI.2.2.2.2.1
  have hct := hI.2.2.2.2.2.1
  cases hO : colO (vB s9.σ) (hB s9.σ) (mB s9.σ) (nB s9.σ) with
  | none =>
    obtain ⟨S9, eS⟩ : ∃ z : LwS, z = (LwS.mk s9.σ s9.υ s9.ς s9.hs s9.ep s9.fc s9.ml 1 s9.nx s9.ct s9.nb s9.n s9.LN s9.CM s9.ρ s9.x s9.x0 s9.f s9.gk s9.g1 s9.g2 s9.g3 s9.fb s9.fB s9.fA s9.fV s9.fP s9.fO s9.g s9.fo s9.fd) := ⟨_, rfl⟩
    refine lv_aload_n hx hb dL_law_1581 rfl (lv_at hl 4 rfl) ?_
    refine lv_aload_n hx hb dL_law_1582 rfl (lv_at hl 2 rfl) ?_
    refine lw_w (Wc := (LCh cy a s9 s9)) (Wn := (LCh cy a S9 s9)) hC (w_coldestMember_t l G cy kS vS a.aX a.na a.tr a.sn s9.hs a.hi a.sc s9.ep s9.fc a.ob s9.σ a.oA s9.fo hC.hl9 hI.1.1 hO) (vx_cwSW 2 hC.S9.2.2.2.2 gL_law_L_coldestMember rfl rfl rfl (by decide +kernel) ⟨Nat.le_of_ble_eq_true rfl, Nat.le_of_ble_eq_true rfl⟩) [0, 1, 24] rfl (by decide) (SameL.cons SameA.rf (SameL.cons SameA.rf (SameL.cons SameA.rf SameL.nil))) (by subst eS; rfl) hP hD hS rfl hl.1 rfl (Nat.le_of_ble_eq_true rfl) ⟨hc1, hs1⟩ dL_law_1583 (fun H locs hP hD hS => ?_)
    refine lv_istore (lv' := [(6, .int 1), (5, .int (nI (4 * q))), (4, .ref a.oD), (3, .ref a.oA), (2, .ref a.am), (1, .ref a.aX), (0, .ref b)]) hx hb dL_law_1586 hl (by decide) rfl (fun ls hl => ?_)
    refine lv_aload_n hx hb dL_law_1588 rfl (lv_at hl 4 rfl) ?_
    refine lw_m (s1 := S9) (t1 := s9) (Wn := (LCh cy a S9 S9)) hC (c_X8_coldestMember_no l G cy a.am a.aS a.aBf a.aAs a.aSv a.aPa a.aOu a.aTx a.aCo s9.ct s9.nb s9.LN ((s9.x0).1) s9.CM s9.hs s9.th (bI (s9.x0).2) s9.ep s9.fc s9.σ hI.1.1 hI.1.bd hO) (cwV 0 hC.S9.2.2.2.2 gL_law_X8_coldestMember rfl rfl rfl (by decide +kernel) ⟨Nat.le_of_ble_eq_true rfl, Nat.le_of_ble_eq_true rfl⟩) [15, 16] rfl (by decide) (SameR.cons (SameR.cons SameR.nil)) (by subst eS; rfl) hP hD hS rfl hl.1 rfl (Nat.le_of_ble_eq_true rfl) ⟨hc1, hs1⟩ dL_law_1589 (fun H locs hP hD hS => ?_)
    refine lv_istore (lv' := [(7, .int 0), (6, .int 1), (5, .int (nI (4 * q))), (4, .ref a.oD), (3, .ref a.oA), (2, .ref a.am), (1, .ref a.aX), (0, .ref b)]) hx hb dL_law_1592 hl (by decide) rfl (fun ls hl => ?_)
    refine lv_aload_n hx hb dL_law_1594 rfl (lv_at hl 5 rfl) ?_
    refine lw_thrown (s1 := S9) (t1 := S9) (k := 1) hC hP (by subst eS; rfl) hl.1 (Nat.le_of_ble_eq_true rfl) ⟨hc1, hs1⟩ dL_law_1595 ?_
    refine lv_iload hx hb dL_law_1598 (lv_at hl 1 rfl) ?_
    refine lv_icmp_eq (tgt := 1605) hx hb dL_law_1600 (by decide) (fun c_1600 => ?_) (fun c_1600 => ?_)
    rotate_left
    · exact absurd c_1600 (by decide)
    refine lv_iload hx hb dL_law_1605 (lv_at hl 1 rfl) ?_
    refine lv_if_ne (tgt := 1622) hx hb dL_law_1607 (by decide) (fun c_1607 => ?_) (fun c_1607 => ?_)
    rotate_left
    · exact absurd c_1607 (by decide)
    refine lv_goto (tgt := 2890) hx hb dL_law_1622 (by decide) ?_
    exact kk S9 H locs ls (LI.of (LI.mono hI (by omega)) (by subst eS; rfl) (by subst eS; rfl) (by subst eS; rfl) (by subst eS; rfl) (by subst eS; rfl) (by subst eS; rfl) (by subst eS; rfl) (by subst eS; rfl) (by subst eS; rfl) (by subst eS; rfl) (by subst eS; rfl) (by subst eS; rfl) (by subst eS; rfl) (by subst eS; rfl) (by subst eS; rfl)) hP hD hS (lv_sub hl [2, 3, 4, 5, 6, 7] rfl)
  | some j =>
    obtain ⟨S9, eS⟩ : ∃ z : LwS, z = (LwS.mk s9.σ s9.υ s9.ς s9.hs s9.ep s9.fc s9.ml 0 s9.nx s9.ct s9.nb s9.n s9.LN s9.CM s9.ρ s9.x s9.x0 s9.f s9.gk s9.g1 s9.g2 s9.g3 s9.fb s9.fB s9.fA s9.fV s9.fP s9.fO s9.g (fun _ => (nI j).toInt64) s9.fd) := ⟨_, rfl⟩
    refine lv_aload_n hx hb dL_law_1581 rfl (lv_at hl 4 rfl) ?_
    refine lv_aload_n hx hb dL_law_1582 rfl (lv_at hl 2 rfl) ?_
    refine lw_w (Wc := (LCh cy a s9 s9)) (Wn := (LCh cy a S9 s9)) hC (w_coldestMember_ok l G cy kS vS a.aX a.na a.tr a.sn s9.hs a.hi a.sc s9.ep s9.fc a.ob s9.σ j a.oA s9.fo hI.1.1 hO) (vx_cwSW 2 hC.S9.2.2.2.2 gL_law_L_coldestMember rfl rfl rfl (by decide +kernel) ⟨Nat.le_of_ble_eq_true rfl, Nat.le_of_ble_eq_true rfl⟩) [0, 1, 24] rfl (by decide) (SameL.cons SameA.rf (SameL.cons SameA.rf (SameL.cons SameA.one SameL.nil))) (by subst eS; rfl) hP hD hS rfl hl.1 rfl (Nat.le_of_ble_eq_true rfl) ⟨hc0, hs0⟩ dL_law_1583 (fun H locs hP hD hS => ?_)
    refine lv_istore (lv' := [(6, .int 0), (5, .int (nI (4 * q))), (4, .ref a.oD), (3, .ref a.oA), (2, .ref a.am), (1, .ref a.aX), (0, .ref b)]) hx hb dL_law_1586 hl (by decide) rfl (fun ls hl => ?_)
    refine lv_aload_n hx hb dL_law_1588 rfl (lv_at hl 4 rfl) ?_
    refine lw_m (s1 := S9) (t1 := s9) (Wn := (LCh cy a S9 S9)) hC (c_X8_coldestMember_ok l G cy a.am a.aS a.aBf a.aAs a.aSv a.aPa a.aOu a.aTx a.aCo s9.ct s9.nb s9.LN ((s9.x0).1) s9.CM s9.hs s9.th (bI (s9.x0).2) s9.ep s9.fc s9.σ j hI.1.1 hI.1.bd hO) (cwV 0 hC.S9.2.2.2.2 gL_law_X8_coldestMember rfl rfl rfl (by decide +kernel) ⟨Nat.le_of_ble_eq_true rfl, Nat.le_of_ble_eq_true rfl⟩) [15, 16] rfl (by decide) (SameR.cons (SameR.cons SameR.nil)) (by subst eS; rfl) hP hD hS rfl hl.1 rfl (Nat.le_of_ble_eq_true rfl) ⟨hcn, hsn⟩ dL_law_1589 (fun H locs hP hD hS => ?_)
    refine lv_istore (lv' := [(7, .int (nI j)), (6, .int 0), (5, .int (nI (4 * q))), (4, .ref a.oD), (3, .ref a.oA), (2, .ref a.am), (1, .ref a.aX), (0, .ref b)]) hx hb dL_law_1592 hl (by decide) rfl (fun ls hl => ?_)
    refine lv_aload_n hx hb dL_law_1594 rfl (lv_at hl 5 rfl) ?_
    refine lw_thrown (s1 := S9) (t1 := S9) (k := 0) hC hP (by subst eS; rfl) hl.1 (Nat.le_of_ble_eq_true rfl) ⟨hcn, hsn⟩ dL_law_1595 ?_
    refine lv_iload hx hb dL_law_1598 (lv_at hl 1 rfl) ?_
    refine lv_icmp_eq (tgt := 1605) hx hb dL_law_1600 (by decide) (fun c_1600 => ?_) (fun c_1600 => ?_)
    rotate_left
    · exact absurd c_1600 (by decide)
    refine lv_iload hx hb dL_law_1605 (lv_at hl 1 rfl) ?_
    refine lv_if_ne (tgt := 1622) hx hb dL_law_1607 (by decide) (fun c_1607 => ?_) (fun c_1607 => ?_)
    · exact absurd c_1607 (by decide)
    refine lv_aload_n hx hb dL_law_1610 rfl (lv_at hl 4 rfl) ?_
    refine lv_iconst (v := 0) hx hb dL_law_1611 (by decide) ?_
    refine lw_ldL (s1 := S9) (t1 := S9) (x := (nI j).toInt64) hC hP (by subst eS; rfl) dL_law_1612 ?_
    refine lv_iload hx hb dL_law_1613 (lv_at hl 0 rfl) ?_
    refine lv_i2l hx hb dL_law_1615 rfl ?_
    refine m_lcmp0 hx hb rfl dL_law_1616 ?_
    refine lv_if_eq (tgt := 1622) hx hb dL_law_1617 (by decide) (fun c_1617 => ?_) (fun c_1617 => ?_)
    rotate_left
    · exact absurd c_1617 (by decide)
    refine lv_goto (tgt := 2890) hx hb dL_law_1622 (by decide) ?_
    refine W.widen (k := cells + 1) (n := slots + 6) (by omega) (by omega) ?_
    exact kk S9 H locs ls (LI.of (LI.mono hI (by omega)) (by subst eS; rfl) (by subst eS; rfl) (by subst eS; rfl) (by subst eS; rfl) (by subst eS; rfl) (by subst eS; rfl) (by subst eS; rfl) (by subst eS; rfl) (by subst eS; rfl) (by subst eS; rfl) (by subst eS; rfl) (by subst eS; rfl) (by subst eS; rfl) (by subst eS; rfl) (by subst eS; rfl)) hP hD hS (lv_sub hl [2, 3, 4, 5, 6, 7] rfl)

set_option maxRecDepth 100000 in
set_option maxHeartbeats 4000000 in
theorem case_24 {p : Program} {l : Launch} {e : Env} {s : State} {m : MethodId} {below : List Frame} {meth : Method} {cq : Code} {G : va_G} {cy : Nat → ClassId} {kS vS : Nat → Nat} {A : Nat → Prop} {a : LA} {b L q : Nat} {xs : Nat → Int32} {Q : State → Prop} {n0 cells slots : Nat} (hC : LC l p s m meth cq G cy kS vS A b L xs) (hq : 4 * q + 4 ≤ L) (hn0 : n0 < 1000000) (hc1 : cells + 1 ≤ room_1.cells) (hs1 : slots + 6 ≤ room_1.slots) (kk : LGo p l e s m below meth cq G cy A a b q Q (n0 + 300) (cells + 1) (slots + 6) 2890) : LGo p l e s m below meth cq G cy A a b q Q n0 cells slots 1625 := by
  intro s9 H locs ls hI hP hD hS hl
  obtain ⟨hx, hb, hml, hown, hts⟩ := id hC.S9
  have hL9 := hC.hL
  have hc0 : cells + 0 ≤ room_1.cells := Nat.le_of_succ_le hc1
  have hcn : cells ≤ room_1.cells := Nat.le_of_succ_le hc1
  have hs0 : slots + 0 ≤ room_1.slots := Nat.le_trans (Nat.le_add_right slots 6) hs1
  have hsn : slots ≤ room_1.slots := Nat.le_trans (Nat.le_add_right slots 6) hs1
  have ho := hI.1.1
  have hN0 := ho.1
  have hM0 := ho.2.1
  have hE0 := ho.2.2.1
  have hnx := hI.2.2.2.2.1
  have hct := hI.2.2.2.2.2.1
  by_cases h2 : cntW (vB s9.σ) (mB s9.σ) (nB s9.σ) < 2
  · have h3 : cntW (vB s9.σ) (mB s9.σ) (nB s9.σ) ≤ 1 := lt_2.mp h2
    obtain ⟨S9, eS⟩ : ∃ z : LwS, z = (LwS.mk s9.σ s9.υ s9.ς s9.hs s9.ep s9.fc s9.ml 1 s9.nx s9.ct s9.nb s9.n s9.LN s9.CM s9.ρ s9.x s9.x0 s9.f s9.gk s9.g1 s9.g2 s9.g3 s9.fb s9.fB s9.fA s9.fV s9.fP s9.fO s9.g s9.fo s9.fd) := ⟨_, rfl⟩
    refine lv_aload_n hx hb dL_law_1625 rfl (lv_at hl 4 rfl) ?_
    refine lv_aload_n hx hb dL_law_1626 rfl (lv_at hl 2 rfl) ?_
    refine lw_w (Wc := (LCh cy a s9 s9)) (Wn := (LCh cy a S9 s9)) hC (w_sharedHeat_t l G cy kS vS a.aX a.na a.tr a.sn s9.hs a.hi a.sc s9.ep s9.fc a.ob s9.σ a.oA s9.fo hC.hl9 hI.1.1 h2) (vx_cwSW 2 hC.S9.2.2.2.2 gL_law_L_sharedHeat rfl rfl rfl (by decide +kernel) ⟨Nat.le_of_ble_eq_true rfl, Nat.le_of_ble_eq_true rfl⟩) [0, 1, 24] rfl (by decide) (SameL.cons SameA.rf (SameL.cons SameA.rf (SameL.cons SameA.rf SameL.nil))) (by subst eS; rfl) hP hD hS rfl hl.1 rfl (Nat.le_of_ble_eq_true rfl) ⟨hc1, hs1⟩ dL_law_1627 (fun H locs hP hD hS => ?_)
    refine lv_istore (lv' := [(6, .int 1), (5, .int (nI (4 * q))), (4, .ref a.oD), (3, .ref a.oA), (2, .ref a.am), (1, .ref a.aX), (0, .ref b)]) hx hb dL_law_1630 hl (by decide) rfl (fun ls hl => ?_)
    refine lv_aload_n hx hb dL_law_1632 rfl (lv_at hl 4 rfl) ?_
    refine lw_m (s1 := S9) (t1 := s9) (Wn := (LCh cy a S9 S9)) hC (c_X8_sharedHeat_no l G cy a.am a.aS a.aBf a.aAs a.aSv a.aPa a.aOu a.aTx a.aCo s9.ct s9.nb s9.LN ((s9.x0).1) s9.CM s9.hs s9.th (bI (s9.x0).2) s9.ep s9.fc s9.σ hI.1.1 h3) (cwV 0 hC.S9.2.2.2.2 gL_law_X8_sharedHeat rfl rfl rfl (by decide +kernel) ⟨Nat.le_of_ble_eq_true rfl, Nat.le_of_ble_eq_true rfl⟩) [15, 16] rfl (by decide) (SameR.cons (SameR.cons SameR.nil)) (by subst eS; rfl) hP hD hS rfl hl.1 rfl (Nat.le_of_ble_eq_true rfl) ⟨hc1, hs1⟩ dL_law_1633 (fun H locs hP hD hS => ?_)
    refine lv_istore (lv' := [(7, .int 0), (6, .int 1), (5, .int (nI (4 * q))), (4, .ref a.oD), (3, .ref a.oA), (2, .ref a.am), (1, .ref a.aX), (0, .ref b)]) hx hb dL_law_1636 hl (by decide) rfl (fun ls hl => ?_)
    refine lv_aload_n hx hb dL_law_1638 rfl (lv_at hl 5 rfl) ?_
    refine lw_thrown (s1 := S9) (t1 := S9) (k := 1) hC hP (by subst eS; rfl) hl.1 (Nat.le_of_ble_eq_true rfl) ⟨hc1, hs1⟩ dL_law_1639 ?_
    refine lv_iload hx hb dL_law_1642 (lv_at hl 1 rfl) ?_
    refine lv_icmp_eq (tgt := 1649) hx hb dL_law_1644 (by decide) (fun c_1644 => ?_) (fun c_1644 => ?_)
    rotate_left
    · exact absurd c_1644 (by decide)
    refine lv_iload hx hb dL_law_1649 (lv_at hl 1 rfl) ?_
    refine lv_if_ne (tgt := 1666) hx hb dL_law_1651 (by decide) (fun c_1651 => ?_) (fun c_1651 => ?_)
    rotate_left
    · exact absurd c_1651 (by decide)
    refine lv_goto (tgt := 2890) hx hb dL_law_1666 (by decide) ?_
    exact kk S9 H locs ls (LI.of (LI.mono hI (by omega)) (by subst eS; rfl) (by subst eS; rfl) (by subst eS; rfl) (by subst eS; rfl) (by subst eS; rfl) (by subst eS; rfl) (by subst eS; rfl) (by subst eS; rfl) (by subst eS; rfl) (by subst eS; rfl) (by subst eS; rfl) (by subst eS; rfl) (by subst eS; rfl) (by subst eS; rfl) (by subst eS; rfl)) hP hD hS (lv_sub hl [2, 3, 4, 5, 6, 7] rfl)
  · have h3 : ¬ cntW (vB s9.σ) (mB s9.σ) (nB s9.σ) ≤ 1 := fun z => h2 (lt_2.mpr z)
    cases hO : hotO (vB s9.σ) (hB s9.σ) (mB s9.σ) (nB s9.σ) with
    | none => exact absurd (by rw [hot_none _ hO]; decide) h2
    | some a0 =>
      cases hC0 : colO (vB s9.σ) (hB s9.σ) (mB s9.σ) (nB s9.σ) with
      | none => exact absurd (by rw [col_none _ hC0]; decide) h2
      | some b0 =>
        have hnz := wet_nz hI.1.bd (show a0 < 5 by have := hotO_lt hO; omega) (show b0 < 5 by have := colO_lt hC0; omega) (hot_wet _ hO)
        obtain ⟨S9, eS⟩ : ∃ z : LwS, z = (LwS.mk s9.σ s9.υ s9.ς s9.hs s9.ep s9.fc s9.ml 0 s9.nx s9.ct s9.nb s9.n s9.LN s9.CM s9.ρ s9.x s9.x0 s9.f s9.gk s9.g1 s9.g2 s9.g3 s9.fb s9.fB s9.fA s9.fV s9.fP s9.fO s9.g (fun _ => (units (vB s9.σ) (hB s9.σ) a0 b0).toInt64) s9.fd) := ⟨_, rfl⟩
        refine lv_aload_n hx hb dL_law_1625 rfl (lv_at hl 4 rfl) ?_
        refine lv_aload_n hx hb dL_law_1626 rfl (lv_at hl 2 rfl) ?_
        refine lw_w (Wc := (LCh cy a s9 s9)) (Wn := (LCh cy a S9 s9)) hC (w_sharedHeat_ok l G cy kS vS a.aX a.na a.tr a.sn s9.hs a.hi a.sc s9.ep s9.fc a.ob s9.σ a0 b0 a.oA s9.fo hI.1.1 h2 hO hC0) (vx_cwSW 2 hC.S9.2.2.2.2 gL_law_L_sharedHeat rfl rfl rfl (by decide +kernel) ⟨Nat.le_of_ble_eq_true rfl, Nat.le_of_ble_eq_true rfl⟩) [0, 1, 24] rfl (by decide) (SameL.cons SameA.rf (SameL.cons SameA.rf (SameL.cons SameA.one SameL.nil))) (by subst eS; rfl) hP hD hS rfl hl.1 rfl (Nat.le_of_ble_eq_true rfl) ⟨hc0, hs0⟩ dL_law_1627 (fun H locs hP hD hS => ?_)
        refine lv_istore (lv' := [(6, .int 0), (5, .int (nI (4 * q))), (4, .ref a.oD), (3, .ref a.oA), (2, .ref a.am), (1, .ref a.aX), (0, .ref b)]) hx hb dL_law_1630 hl (by decide) rfl (fun ls hl => ?_)
        refine lv_aload_n hx hb dL_law_1632 rfl (lv_at hl 4 rfl) ?_
        refine lw_m (s1 := S9) (t1 := s9) (Wn := (LCh cy a S9 S9)) hC (c_X8_sharedHeat_ok l G cy a.am a.aS a.aBf a.aAs a.aSv a.aPa a.aOu a.aTx a.aCo s9.ct s9.nb s9.LN ((s9.x0).1) s9.CM s9.hs s9.th (bI (s9.x0).2) s9.ep s9.fc s9.σ a0 b0 hI.1.1 hI.1.bd h3 hO hC0 hnz) (cwV 0 hC.S9.2.2.2.2 gL_law_X8_sharedHeat rfl rfl rfl (by decide +kernel) ⟨Nat.le_of_ble_eq_true rfl, Nat.le_of_ble_eq_true rfl⟩) [15, 16] rfl (by decide) (SameR.cons (SameR.cons SameR.nil)) (by subst eS; rfl) hP hD hS rfl hl.1 rfl (Nat.le_of_ble_eq_true rfl) ⟨hcn, hsn⟩ dL_law_1633 (fun H locs hP hD hS => ?_)
        refine lv_istore (lv' := [(7, .int (units (vB s9.σ) (hB s9.σ) a0 b0)), (6, .int 0), (5, .int (nI (4 * q))), (4, .ref a.oD), (3, .ref a.oA), (2, .ref a.am), (1, .ref a.aX), (0, .ref b)]) hx hb dL_law_1636 hl (by decide) rfl (fun ls hl => ?_)
        refine lv_aload_n hx hb dL_law_1638 rfl (lv_at hl 5 rfl) ?_
        refine lw_thrown (s1 := S9) (t1 := S9) (k := 0) hC hP (by subst eS; rfl) hl.1 (Nat.le_of_ble_eq_true rfl) ⟨hcn, hsn⟩ dL_law_1639 ?_
        refine lv_iload hx hb dL_law_1642 (lv_at hl 1 rfl) ?_
        refine lv_icmp_eq (tgt := 1649) hx hb dL_law_1644 (by decide) (fun c_1644 => ?_) (fun c_1644 => ?_)
        rotate_left
        · exact absurd c_1644 (by decide)
        refine lv_iload hx hb dL_law_1649 (lv_at hl 1 rfl) ?_
        refine lv_if_ne (tgt := 1666) hx hb dL_law_1651 (by decide) (fun c_1651 => ?_) (fun c_1651 => ?_)
        · exact absurd c_1651 (by decide)
        refine lv_aload_n hx hb dL_law_1654 rfl (lv_at hl 4 rfl) ?_
        refine lv_iconst (v := 0) hx hb dL_law_1655 (by decide) ?_
        refine lw_ldL (s1 := S9) (t1 := S9) (x := (units (vB s9.σ) (hB s9.σ) a0 b0).toInt64) hC hP (by subst eS; rfl) dL_law_1656 ?_
        refine lv_iload hx hb dL_law_1657 (lv_at hl 0 rfl) ?_
        refine lv_i2l hx hb dL_law_1659 rfl ?_
        refine m_lcmp0 hx hb rfl dL_law_1660 ?_
        refine lv_if_eq (tgt := 1666) hx hb dL_law_1661 (by decide) (fun c_1661 => ?_) (fun c_1661 => ?_)
        rotate_left
        · exact absurd c_1661 (by decide)
        refine lv_goto (tgt := 2890) hx hb dL_law_1666 (by decide) ?_
        refine W.widen (k := cells + 1) (n := slots + 6) (by omega) (by omega) ?_
        exact kk S9 H locs ls (LI.of (LI.mono hI (by omega)) (by subst eS; rfl) (by subst eS; rfl) (by subst eS; rfl) (by subst eS; rfl) (by subst eS; rfl) (by subst eS; rfl) (by subst eS; rfl) (by subst eS; rfl) (by subst eS; rfl) (by subst eS; rfl) (by subst eS; rfl) (by subst eS; rfl) (by subst eS; rfl) (by subst eS; rfl) (by subst eS; rfl)) hP hD hS (lv_sub hl [2, 3, 4, 5, 6, 7] rfl)

set_option maxRecDepth 100000 in
set_option maxHeartbeats 4000000 in
theorem case_25 {p : Program} {l : Launch} {e : Env} {s : State} {m : MethodId} {below : List Frame} {meth : Method} {cq : Code} {G : va_G} {cy : Nat → ClassId} {kS vS : Nat → Nat} {A : Nat → Prop} {a : LA} {b L q : Nat} {xs : Nat → Int32} {Q : State → Prop} {n0 cells slots : Nat} (hC : LC l p s m meth cq G cy kS vS A b L xs) (hq : 4 * q + 4 ≤ L) (hn0 : n0 < 1000000) (hc1 : cells + 1 ≤ room_1.cells) (hs1 : slots + 6 ≤ room_1.slots) (kk : LGo p l e s m below meth cq G cy A a b q Q (n0 + 300) (cells + 1) (slots + 6) 2890) : LGo p l e s m below meth cq G cy A a b q Q n0 cells slots 1669 := by
  intro s9 H locs ls hI hP hD hS hl
  obtain ⟨hx, hb, hml, hown, hts⟩ := id hC.S9
  have hL9 := hC.hL
  have hc0 : cells + 0 ≤ room_1.cells := Nat.le_of_succ_le hc1
  have hcn : cells ≤ room_1.cells := Nat.le_of_succ_le hc1
  have hs0 : slots + 0 ≤ room_1.slots := Nat.le_trans (Nat.le_add_right slots 6) hs1
  have hsn : slots ≤ room_1.slots := Nat.le_trans (Nat.le_add_right slots 6) hs1
  have ho := hI.1.1
  have hN0 := ho.1
  have hM0 := ho.2.1
  have hE0 := ho.2.2.1
  have hnx := hI.2.2.2.2.1
  have hct := hI.2.2.2.2.2.1
  by_cases hF : inI (xs (4 * q + 1)) (nI (nB s9.σ)) = true
  · obtain ⟨j, hj, e1⟩ := ix_of (by omega) hF
    by_cases hm9 : mB s9.σ j = 0
    · obtain ⟨S9, eS⟩ : ∃ z : LwS, z = (LwS.mk s9.σ s9.υ s9.ς s9.hs s9.ep s9.fc s9.ml 2 s9.nx s9.ct s9.nb s9.n s9.LN s9.CM s9.ρ s9.x s9.x0 s9.f s9.gk s9.g1 s9.g2 s9.g3 s9.fb s9.fB s9.fA s9.fV s9.fP s9.fO s9.g s9.fo s9.fd) := ⟨_, rfl⟩
      refine lv_aload_n hx hb dL_law_1669 rfl (lv_at hl 4 rfl) ?_
      refine lv_aload_n hx hb dL_law_1670 rfl (lv_at hl 5 rfl) ?_
      refine lv_iload hx hb dL_law_1671 (lv_at hl 0 rfl) ?_
      refine lv_iconst (v := 1) hx hb dL_law_1673 (by decide) ?_
      refine lv_iadd hx hb dL_law_1674 ?_
      refine m_sld (v := nI j) hx hb hC.hX hC.hbl hC.hbA hS (k := 4 * q + 1) (m_add rfl rfl) (by omega) hC.hL e1 dL_law_1675 ?_
      refine lv_aload_n hx hb dL_law_1676 rfl (lv_at hl 2 rfl) ?_
      refine lw_w (Wc := (LCh cy a s9 s9)) (Wn := (LCh cy a S9 s9)) hC (w_ticksUntilDefection_2 l G cy kS vS a.aX a.na a.tr a.sn s9.hs a.hi a.sc s9.ep s9.fc a.ob s9.σ j a.oA s9.fo hC.hl9 hI.1.1 hj hm9) (vx_cwSW 3 hC.S9.2.2.2.2 gL_law_L_ticksUntilDefection rfl rfl rfl (by decide +kernel) ⟨Nat.le_of_ble_eq_true rfl, Nat.le_of_ble_eq_true rfl⟩) [0, 1, 24] rfl (by decide) (SameL.cons SameA.rf (SameL.cons SameA.rf (SameL.cons SameA.rf SameL.nil))) (by subst eS; rfl) hP hD hS rfl hl.1 rfl (Nat.le_of_ble_eq_true rfl) ⟨hc1, hs1⟩ dL_law_1677 (fun H locs hP hD hS => ?_)
      refine lv_istore (lv' := [(6, .int 2), (5, .int (nI (4 * q))), (4, .ref a.oD), (3, .ref a.oA), (2, .ref a.am), (1, .ref a.aX), (0, .ref b)]) hx hb dL_law_1680 hl (by decide) rfl (fun ls hl => ?_)
      refine lv_aload_n hx hb dL_law_1682 rfl (lv_at hl 4 rfl) ?_
      refine lv_aload_n hx hb dL_law_1683 rfl (lv_at hl 6 rfl) ?_
      refine lv_iload hx hb dL_law_1684 (lv_at hl 1 rfl) ?_
      refine lv_iconst (v := 1) hx hb dL_law_1686 (by decide) ?_
      refine lv_iadd hx hb dL_law_1687 ?_
      refine m_sld (v := nI j) hx hb hC.hX hC.hbl hC.hbA hS (k := 4 * q + 1) (m_add rfl rfl) (by omega) hC.hL e1 dL_law_1688 ?_
      refine lw_m (s1 := S9) (t1 := s9) (Wn := (LCh cy a S9 S9)) hC (c_X8_ticksUntilDefection_no2 l G cy a.am a.aS a.aBf a.aAs a.aSv a.aPa a.aOu a.aTx a.aCo s9.ct s9.nb s9.LN ((s9.x0).1) s9.CM s9.hs s9.th (bI (s9.x0).2) s9.ep s9.fc s9.σ j hI.1.1 hj hm9) (cwV 1 hC.S9.2.2.2.2 gL_law_X8_ticksUntilDefection rfl rfl rfl (by decide +kernel) ⟨Nat.le_of_ble_eq_true rfl, Nat.le_of_ble_eq_true rfl⟩) [15, 16] rfl (by decide) (SameR.cons (SameR.cons SameR.nil)) (by subst eS; rfl) hP hD hS rfl hl.1 rfl (Nat.le_of_ble_eq_true rfl) ⟨hc1, hs1⟩ dL_law_1689 (fun H locs hP hD hS => ?_)
      refine lv_istore (lv' := [(7, .int 0), (6, .int 2), (5, .int (nI (4 * q))), (4, .ref a.oD), (3, .ref a.oA), (2, .ref a.am), (1, .ref a.aX), (0, .ref b)]) hx hb dL_law_1692 hl (by decide) rfl (fun ls hl => ?_)
      refine lv_aload_n hx hb dL_law_1694 rfl (lv_at hl 5 rfl) ?_
      refine lw_thrown (s1 := S9) (t1 := S9) (k := 2) hC hP (by subst eS; rfl) hl.1 (Nat.le_of_ble_eq_true rfl) ⟨hc1, hs1⟩ dL_law_1695 ?_
      refine lv_iload hx hb dL_law_1698 (lv_at hl 1 rfl) ?_
      refine lv_icmp_eq (tgt := 1705) hx hb dL_law_1700 (by decide) (fun c_1700 => ?_) (fun c_1700 => ?_)
      rotate_left
      · exact absurd c_1700 (by decide)
      refine lv_iload hx hb dL_law_1705 (lv_at hl 1 rfl) ?_
      refine lv_if_ne (tgt := 1722) hx hb dL_law_1707 (by decide) (fun c_1707 => ?_) (fun c_1707 => ?_)
      rotate_left
      · exact absurd c_1707 (by decide)
      refine lv_goto (tgt := 2890) hx hb dL_law_1722 (by decide) ?_
      exact kk S9 H locs ls (LI.of (LI.mono hI (by omega)) (by subst eS; rfl) (by subst eS; rfl) (by subst eS; rfl) (by subst eS; rfl) (by subst eS; rfl) (by subst eS; rfl) (by subst eS; rfl) (by subst eS; rfl) (by subst eS; rfl) (by subst eS; rfl) (by subst eS; rfl) (by subst eS; rfl) (by subst eS; rfl) (by subst eS; rfl) (by subst eS; rfl)) hP hD hS (lv_sub hl [2, 3, 4, 5, 6, 7] rfl)
    · have hbt := hI.1.mids (K := 60) (by omega)
      by_cases hR1 : atF (fun k9 => mB (tickN s9.σ k9) j) 0 1 60 = -1
      · obtain ⟨S9, eS⟩ : ∃ z : LwS, z = (LwS.mk s9.σ (tickN s9.σ 60) s9.ς s9.hs s9.ep s9.fc s9.ml 3 s9.nx s9.ct s9.nb s9.n s9.LN s9.CM s9.ρ s9.x s9.x0 s9.f s9.gk s9.g1 s9.g2 s9.g3 s9.fb s9.fB (encS s9.σ) s9.fV s9.fP s9.fO s9.g s9.fo s9.fd) := ⟨_, rfl⟩
        refine lv_aload_n hx hb dL_law_1669 rfl (lv_at hl 4 rfl) ?_
        refine lv_aload_n hx hb dL_law_1670 rfl (lv_at hl 5 rfl) ?_
        refine lv_iload hx hb dL_law_1671 (lv_at hl 0 rfl) ?_
        refine lv_iconst (v := 1) hx hb dL_law_1673 (by decide) ?_
        refine lv_iadd hx hb dL_law_1674 ?_
        refine m_sld (v := nI j) hx hb hC.hX hC.hbl hC.hbA hS (k := 4 * q + 1) (m_add rfl rfl) (by omega) hC.hL e1 dL_law_1675 ?_
        refine lv_aload_n hx hb dL_law_1676 rfl (lv_at hl 2 rfl) ?_
        refine lw_w (Wc := (LCh cy a s9 s9)) (Wn := (LCh cy a S9 s9)) hC (w_ticksUntilDefection_3 l G cy kS vS a.aX a.na a.tr a.sn s9.hs a.hi a.sc s9.ep s9.fc a.ob s9.σ s9.υ j a.oA s9.fo hC.hl9 hI.1.1 hj hm9 hR1) (vx_cwSW 3 hC.S9.2.2.2.2 gL_law_L_ticksUntilDefection rfl rfl rfl (by decide +kernel) ⟨Nat.le_of_ble_eq_true rfl, Nat.le_of_ble_eq_true rfl⟩) [0, 1, 2, 24] rfl (by decide) (SameL.cons SameA.rf (SameL.cons SameA.rf (SameL.cons SameA.st (SameL.cons SameA.rf SameL.nil)))) (by subst eS; rfl) hP hD hS rfl hl.1 rfl (Nat.le_of_ble_eq_true rfl) ⟨hc1, hs1⟩ dL_law_1677 (fun H locs hP hD hS => ?_)
        refine lv_istore (lv' := [(6, .int 3), (5, .int (nI (4 * q))), (4, .ref a.oD), (3, .ref a.oA), (2, .ref a.am), (1, .ref a.aX), (0, .ref b)]) hx hb dL_law_1680 hl (by decide) rfl (fun ls hl => ?_)
        refine lv_aload_n hx hb dL_law_1682 rfl (lv_at hl 4 rfl) ?_
        refine lv_aload_n hx hb dL_law_1683 rfl (lv_at hl 6 rfl) ?_
        refine lv_iload hx hb dL_law_1684 (lv_at hl 1 rfl) ?_
        refine lv_iconst (v := 1) hx hb dL_law_1686 (by decide) ?_
        refine lv_iadd hx hb dL_law_1687 ?_
        refine m_sld (v := nI j) hx hb hC.hX hC.hbl hC.hbA hS (k := 4 * q + 1) (m_add rfl rfl) (by omega) hC.hL e1 dL_law_1688 ?_
        refine lw_m (s1 := S9) (t1 := s9) (Wn := (LCh cy a S9 S9)) hC (c_X8_ticksUntilDefection_no3 l G cy a.am a.aS a.aBf a.aAs a.aSv a.aPa a.aOu a.aTx a.aCo s9.ct s9.nb s9.LN ((s9.x0).1) s9.CM s9.hs s9.th (bI (s9.x0).2) s9.ep s9.fc s9.σ j (atF (fun k9 => mB (tickN s9.σ k9) j) 0 1 60) s9.fA hI.1.1 hj hm9 rfl hR1 hbt) (cwV 1 hC.S9.2.2.2.2 gL_law_X8_ticksUntilDefection rfl rfl rfl (by decide +kernel) ⟨Nat.le_of_ble_eq_true rfl, Nat.le_of_ble_eq_true rfl⟩) [15, 16, 18] rfl (by decide) (SameR.cons (SameR.cons (SameR.cons SameR.nil))) (by subst eS; rfl) hP hD hS rfl hl.1 rfl (Nat.le_of_ble_eq_true rfl) ⟨hc1, hs1⟩ dL_law_1689 (fun H locs hP hD hS => ?_)
        refine lv_istore (lv' := [(7, .int 0), (6, .int 3), (5, .int (nI (4 * q))), (4, .ref a.oD), (3, .ref a.oA), (2, .ref a.am), (1, .ref a.aX), (0, .ref b)]) hx hb dL_law_1692 hl (by decide) rfl (fun ls hl => ?_)
        refine lv_aload_n hx hb dL_law_1694 rfl (lv_at hl 5 rfl) ?_
        refine lw_thrown (s1 := S9) (t1 := S9) (k := 3) hC hP (by subst eS; rfl) hl.1 (Nat.le_of_ble_eq_true rfl) ⟨hc1, hs1⟩ dL_law_1695 ?_
        refine lv_iload hx hb dL_law_1698 (lv_at hl 1 rfl) ?_
        refine lv_icmp_eq (tgt := 1705) hx hb dL_law_1700 (by decide) (fun c_1700 => ?_) (fun c_1700 => ?_)
        rotate_left
        · exact absurd c_1700 (by decide)
        refine lv_iload hx hb dL_law_1705 (lv_at hl 1 rfl) ?_
        refine lv_if_ne (tgt := 1722) hx hb dL_law_1707 (by decide) (fun c_1707 => ?_) (fun c_1707 => ?_)
        rotate_left
        · exact absurd c_1707 (by decide)
        refine lv_goto (tgt := 2890) hx hb dL_law_1722 (by decide) ?_
        exact kk S9 H locs ls (LI.of (LI.mono hI (by omega)) (by subst eS; rfl) (by subst eS; rfl) (by subst eS; rfl) (by subst eS; rfl) (by subst eS; rfl) (by subst eS; rfl) (by subst eS; rfl) (by subst eS; rfl) (by subst eS; rfl) (by subst eS; rfl) (by subst eS; rfl) (by subst eS; rfl) (by subst eS; rfl) (by subst eS; rfl) (by subst eS; rfl)) hP hD hS (lv_sub hl [2, 3, 4, 5, 6, 7] rfl)
      · obtain ⟨n9, hn9, hR2⟩ := at_nI (f := fun k9 => mB (tickN s9.σ k9) j) (i := 0) (k := 1) (d := 60) hR1
        obtain ⟨S9, eS⟩ : ∃ z : LwS, z = (LwS.mk s9.σ (tickN s9.σ n9) s9.ς s9.hs s9.ep s9.fc s9.ml 0 s9.nx s9.ct s9.nb s9.n s9.LN s9.CM s9.ρ s9.x s9.x0 s9.f s9.gk s9.g1 s9.g2 s9.g3 s9.fb s9.fB (encS s9.σ) s9.fV s9.fP s9.fO s9.g (fun _ => (nI n9).toInt64) s9.fd) := ⟨_, rfl⟩
        refine lv_aload_n hx hb dL_law_1669 rfl (lv_at hl 4 rfl) ?_
        refine lv_aload_n hx hb dL_law_1670 rfl (lv_at hl 5 rfl) ?_
        refine lv_iload hx hb dL_law_1671 (lv_at hl 0 rfl) ?_
        refine lv_iconst (v := 1) hx hb dL_law_1673 (by decide) ?_
        refine lv_iadd hx hb dL_law_1674 ?_
        refine m_sld (v := nI j) hx hb hC.hX hC.hbl hC.hbA hS (k := 4 * q + 1) (m_add rfl rfl) (by omega) hC.hL e1 dL_law_1675 ?_
        refine lv_aload_n hx hb dL_law_1676 rfl (lv_at hl 2 rfl) ?_
        refine lw_w (Wc := (LCh cy a s9 s9)) (Wn := (LCh cy a S9 s9)) hC (w_ticksUntilDefection_ok l G cy kS vS a.aX a.na a.tr a.sn s9.hs a.hi a.sc s9.ep s9.fc a.ob s9.σ s9.υ j n9 a.oA s9.fo hI.1.1 hj hm9 (by omega) hR2) (vx_cwSW 3 hC.S9.2.2.2.2 gL_law_L_ticksUntilDefection rfl rfl rfl (by decide +kernel) ⟨Nat.le_of_ble_eq_true rfl, Nat.le_of_ble_eq_true rfl⟩) [0, 1, 2, 24] rfl (by decide) (SameL.cons SameA.rf (SameL.cons SameA.rf (SameL.cons SameA.st (SameL.cons SameA.one SameL.nil)))) (by subst eS; rfl) hP hD hS rfl hl.1 rfl (Nat.le_of_ble_eq_true rfl) ⟨hc0, hs0⟩ dL_law_1677 (fun H locs hP hD hS => ?_)
        refine lv_istore (lv' := [(6, .int 0), (5, .int (nI (4 * q))), (4, .ref a.oD), (3, .ref a.oA), (2, .ref a.am), (1, .ref a.aX), (0, .ref b)]) hx hb dL_law_1680 hl (by decide) rfl (fun ls hl => ?_)
        refine lv_aload_n hx hb dL_law_1682 rfl (lv_at hl 4 rfl) ?_
        refine lv_aload_n hx hb dL_law_1683 rfl (lv_at hl 6 rfl) ?_
        refine lv_iload hx hb dL_law_1684 (lv_at hl 1 rfl) ?_
        refine lv_iconst (v := 1) hx hb dL_law_1686 (by decide) ?_
        refine lv_iadd hx hb dL_law_1687 ?_
        refine m_sld (v := nI j) hx hb hC.hX hC.hbl hC.hbA hS (k := 4 * q + 1) (m_add rfl rfl) (by omega) hC.hL e1 dL_law_1688 ?_
        refine lw_m (s1 := S9) (t1 := s9) (Wn := (LCh cy a S9 S9)) hC (c_X8_ticksUntilDefection_ok l G cy a.am a.aS a.aBf a.aAs a.aSv a.aPa a.aOu a.aTx a.aCo s9.ct s9.nb s9.LN ((s9.x0).1) s9.CM s9.hs s9.th (bI (s9.x0).2) s9.ep s9.fc s9.σ j (atF (fun k9 => mB (tickN s9.σ k9) j) 0 1 60) s9.fA hI.1.1 hj hm9 rfl hR1 hbt) (cwV 1 hC.S9.2.2.2.2 gL_law_X8_ticksUntilDefection rfl rfl rfl (by decide +kernel) ⟨Nat.le_of_ble_eq_true rfl, Nat.le_of_ble_eq_true rfl⟩) [15, 16, 18] rfl (by decide) (SameR.cons (SameR.cons (SameR.cons SameR.nil))) (by subst eS; rfl) hP hD hS rfl hl.1 rfl (Nat.le_of_ble_eq_true rfl) ⟨hcn, hsn⟩ dL_law_1689 (fun H locs hP hD hS => ?_)
        refine lv_istore (lv' := [(7, .int (atF (fun k9 => mB (tickN s9.σ k9) j) 0 1 60)), (6, .int 0), (5, .int (nI (4 * q))), (4, .ref a.oD), (3, .ref a.oA), (2, .ref a.am), (1, .ref a.aX), (0, .ref b)]) hx hb dL_law_1692 hl (by decide) rfl (fun ls hl => ?_)
        refine lv_aload_n hx hb dL_law_1694 rfl (lv_at hl 5 rfl) ?_
        refine lw_thrown (s1 := S9) (t1 := S9) (k := 0) hC hP (by subst eS; rfl) hl.1 (Nat.le_of_ble_eq_true rfl) ⟨hcn, hsn⟩ dL_law_1695 ?_
        refine lv_iload hx hb dL_law_1698 (lv_at hl 1 rfl) ?_
        refine lv_icmp_eq (tgt := 1705) hx hb dL_law_1700 (by decide) (fun c_1700 => ?_) (fun c_1700 => ?_)
        rotate_left
        · exact absurd c_1700 (by decide)
        refine lv_iload hx hb dL_law_1705 (lv_at hl 1 rfl) ?_
        refine lv_if_ne (tgt := 1722) hx hb dL_law_1707 (by decide) (fun c_1707 => ?_) (fun c_1707 => ?_)
        · exact absurd c_1707 (by decide)
        refine lv_aload_n hx hb dL_law_1710 rfl (lv_at hl 4 rfl) ?_
        refine lv_iconst (v := 0) hx hb dL_law_1711 (by decide) ?_
        refine lw_ldL (s1 := S9) (t1 := S9) (x := (nI n9).toInt64) hC hP (by subst eS; rfl) dL_law_1712 ?_
        refine lv_iload hx hb dL_law_1713 (lv_at hl 0 rfl) ?_
        refine lv_i2l hx hb dL_law_1715 rfl ?_
        refine m_lcmp0 hx hb (congrArg Int32.toInt64 hR2.symm) dL_law_1716 ?_
        refine lv_if_eq (tgt := 1722) hx hb dL_law_1717 (by decide) (fun c_1717 => ?_) (fun c_1717 => ?_)
        rotate_left
        · exact absurd c_1717 (by decide)
        refine lv_goto (tgt := 2890) hx hb dL_law_1722 (by decide) ?_
        refine W.widen (k := cells + 1) (n := slots + 6) (by omega) (by omega) ?_
        exact kk S9 H locs ls (LI.of (LI.mono hI (by omega)) (by subst eS; rfl) (by subst eS; rfl) (by subst eS; rfl) (by subst eS; rfl) (by subst eS; rfl) (by subst eS; rfl) (by subst eS; rfl) (by subst eS; rfl) (by subst eS; rfl) (by subst eS; rfl) (by subst eS; rfl) (by subst eS; rfl) (by subst eS; rfl) (by subst eS; rfl) (by subst eS; rfl)) hP hD hS (lv_sub hl [2, 3, 4, 5, 6, 7] rfl)
  · obtain ⟨S9, eS⟩ : ∃ z : LwS, z = (LwS.mk s9.σ s9.υ s9.ς s9.hs s9.ep s9.fc s9.ml 1 s9.nx s9.ct s9.nb s9.n s9.LN s9.CM s9.ρ s9.x s9.x0 s9.f s9.gk s9.g1 s9.g2 s9.g3 s9.fb s9.fB s9.fA s9.fV s9.fP s9.fO s9.g s9.fo s9.fd) := ⟨_, rfl⟩
    refine lv_aload_n hx hb dL_law_1669 rfl (lv_at hl 4 rfl) ?_
    refine lv_aload_n hx hb dL_law_1670 rfl (lv_at hl 5 rfl) ?_
    refine lv_iload hx hb dL_law_1671 (lv_at hl 0 rfl) ?_
    refine lv_iconst (v := 1) hx hb dL_law_1673 (by decide) ?_
    refine lv_iadd hx hb dL_law_1674 ?_
    refine m_sld (v := xs (4 * q + 1)) hx hb hC.hX hC.hbl hC.hbA hS (k := 4 * q + 1) (m_add rfl rfl) (by omega) hC.hL rfl dL_law_1675 ?_
    refine lv_aload_n hx hb dL_law_1676 rfl (lv_at hl 2 rfl) ?_
    refine lw_w (Wc := (LCh cy a s9 s9)) (Wn := (LCh cy a S9 s9)) hC (w_ticksUntilDefection_1 l G cy kS vS a.aX a.na a.tr a.sn s9.hs a.hi a.sc s9.ep s9.fc a.ob s9.σ (xs (4 * q + 1)) a.oA s9.fo hC.hl9 hI.1.1 hF) (vx_cwSW 3 hC.S9.2.2.2.2 gL_law_L_ticksUntilDefection rfl rfl rfl (by decide +kernel) ⟨Nat.le_of_ble_eq_true rfl, Nat.le_of_ble_eq_true rfl⟩) [0, 1, 24] rfl (by decide) (SameL.cons SameA.rf (SameL.cons SameA.rf (SameL.cons SameA.rf SameL.nil))) (by subst eS; rfl) hP hD hS rfl hl.1 rfl (Nat.le_of_ble_eq_true rfl) ⟨hc1, hs1⟩ dL_law_1677 (fun H locs hP hD hS => ?_)
    refine lv_istore (lv' := [(6, .int 1), (5, .int (nI (4 * q))), (4, .ref a.oD), (3, .ref a.oA), (2, .ref a.am), (1, .ref a.aX), (0, .ref b)]) hx hb dL_law_1680 hl (by decide) rfl (fun ls hl => ?_)
    refine lv_aload_n hx hb dL_law_1682 rfl (lv_at hl 4 rfl) ?_
    refine lv_aload_n hx hb dL_law_1683 rfl (lv_at hl 6 rfl) ?_
    refine lv_iload hx hb dL_law_1684 (lv_at hl 1 rfl) ?_
    refine lv_iconst (v := 1) hx hb dL_law_1686 (by decide) ?_
    refine lv_iadd hx hb dL_law_1687 ?_
    refine m_sld (v := xs (4 * q + 1)) hx hb hC.hX hC.hbl hC.hbA hS (k := 4 * q + 1) (m_add rfl rfl) (by omega) hC.hL rfl dL_law_1688 ?_
    refine lw_m (s1 := S9) (t1 := s9) (Wn := (LCh cy a S9 S9)) hC (c_X8_ticksUntilDefection_no1 l G cy a.am a.aS a.aBf a.aAs a.aSv a.aPa a.aOu a.aTx a.aCo s9.ct s9.nb s9.LN ((s9.x0).1) s9.CM s9.hs s9.th (bI (s9.x0).2) s9.ep s9.fc s9.σ (xs (4 * q + 1)) hI.1.1 hF) (cwV 1 hC.S9.2.2.2.2 gL_law_X8_ticksUntilDefection rfl rfl rfl (by decide +kernel) ⟨Nat.le_of_ble_eq_true rfl, Nat.le_of_ble_eq_true rfl⟩) [15, 16] rfl (by decide) (SameR.cons (SameR.cons SameR.nil)) (by subst eS; rfl) hP hD hS rfl hl.1 rfl (Nat.le_of_ble_eq_true rfl) ⟨hc1, hs1⟩ dL_law_1689 (fun H locs hP hD hS => ?_)
    refine lv_istore (lv' := [(7, .int 0), (6, .int 1), (5, .int (nI (4 * q))), (4, .ref a.oD), (3, .ref a.oA), (2, .ref a.am), (1, .ref a.aX), (0, .ref b)]) hx hb dL_law_1692 hl (by decide) rfl (fun ls hl => ?_)
    refine lv_aload_n hx hb dL_law_1694 rfl (lv_at hl 5 rfl) ?_
    refine lw_thrown (s1 := S9) (t1 := S9) (k := 1) hC hP (by subst eS; rfl) hl.1 (Nat.le_of_ble_eq_true rfl) ⟨hc1, hs1⟩ dL_law_1695 ?_
    refine lv_iload hx hb dL_law_1698 (lv_at hl 1 rfl) ?_
    refine lv_icmp_eq (tgt := 1705) hx hb dL_law_1700 (by decide) (fun c_1700 => ?_) (fun c_1700 => ?_)
    rotate_left
    · exact absurd c_1700 (by decide)
    refine lv_iload hx hb dL_law_1705 (lv_at hl 1 rfl) ?_
    refine lv_if_ne (tgt := 1722) hx hb dL_law_1707 (by decide) (fun c_1707 => ?_) (fun c_1707 => ?_)
    rotate_left
    · exact absurd c_1707 (by decide)
    refine lv_goto (tgt := 2890) hx hb dL_law_1722 (by decide) ?_
    exact kk S9 H locs ls (LI.of (LI.mono hI (by omega)) (by subst eS; rfl) (by subst eS; rfl) (by subst eS; rfl) (by subst eS; rfl) (by subst eS; rfl) (by subst eS; rfl) (by subst eS; rfl) (by subst eS; rfl) (by subst eS; rfl) (by subst eS; rfl) (by subst eS; rfl) (by subst eS; rfl) (by subst eS; rfl) (by subst eS; rfl) (by subst eS; rfl)) hP hD hS (lv_sub hl [2, 3, 4, 5, 6, 7] rfl)

set_option maxRecDepth 100000 in
set_option maxHeartbeats 4000000 in
theorem case_26 {p : Program} {l : Launch} {e : Env} {s : State} {m : MethodId} {below : List Frame} {meth : Method} {cq : Code} {G : va_G} {cy : Nat → ClassId} {kS vS : Nat → Nat} {A : Nat → Prop} {a : LA} {b L q : Nat} {xs : Nat → Int32} {Q : State → Prop} {n0 cells slots : Nat} (hC : LC l p s m meth cq G cy kS vS A b L xs) (hq : 4 * q + 4 ≤ L) (hn0 : n0 < 1000000) (hc1 : cells + 1 ≤ room_1.cells) (hs1 : slots + 6 ≤ room_1.slots) (kk : LGo p l e s m below meth cq G cy A a b q Q (n0 + 300) (cells + 1) (slots + 6) 2890) : LGo p l e s m below meth cq G cy A a b q Q n0 cells slots 1725 := by
  intro s9 H locs ls hI hP hD hS hl
  obtain ⟨hx, hb, hml, hown, hts⟩ := id hC.S9
  have hL9 := hC.hL
  have hc0 : cells + 0 ≤ room_1.cells := Nat.le_of_succ_le hc1
  have hcn : cells ≤ room_1.cells := Nat.le_of_succ_le hc1
  have hs0 : slots + 0 ≤ room_1.slots := Nat.le_trans (Nat.le_add_right slots 6) hs1
  have hsn : slots ≤ room_1.slots := Nat.le_trans (Nat.le_add_right slots 6) hs1
  have ho := hI.1.1
  have hN0 := ho.1
  have hM0 := ho.2.1
  have hE0 := ho.2.2.1
  have hnx := hI.2.2.2.2.1
  have hct := hI.2.2.2.2.2.1
  by_cases hF : inI (xs (4 * q + 1)) (nI (nB s9.σ)) = true
  · obtain ⟨j, hj, e1⟩ := ix_of (by omega) hF
    by_cases h6 : inR (xs (4 * q + 2)) 0 60 = true
    · obtain ⟨e2, -, h60⟩ := bx_of (lo := 0) (hi := 60) (by omega) (by omega) h6
      have h7 : inR (nI (bx (xs (4 * q + 2)))) 0 60 = true := by rw [← e2]; exact h6
      obtain ⟨S9, eS⟩ : ∃ z : LwS, z = (LwS.mk s9.σ (tickN s9.σ (bx (xs (4 * q + 2)))) s9.ς s9.hs s9.ep s9.fc s9.ml 0 s9.nx s9.ct s9.nb s9.n s9.LN s9.CM s9.ρ s9.x s9.x0 s9.f s9.gk s9.g1 s9.g2 s9.g3 s9.fb s9.fB (encS s9.σ) s9.fV s9.fP s9.fO s9.g (fun _ => (hB (tickN s9.σ (bx (xs (4 * q + 2)))) j).toInt64) s9.fd) := ⟨_, rfl⟩
      refine lv_aload_n hx hb dL_law_1725 rfl (lv_at hl 4 rfl) ?_
      refine lv_aload_n hx hb dL_law_1726 rfl (lv_at hl 5 rfl) ?_
      refine lv_iload hx hb dL_law_1727 (lv_at hl 0 rfl) ?_
      refine lv_iconst (v := 1) hx hb dL_law_1729 (by decide) ?_
      refine lv_iadd hx hb dL_law_1730 ?_
      refine m_sld (v := nI j) hx hb hC.hX hC.hbl hC.hbA hS (k := 4 * q + 1) (m_add rfl rfl) (by omega) hC.hL e1 dL_law_1731 ?_
      refine lv_aload_n hx hb dL_law_1732 rfl (lv_at hl 5 rfl) ?_
      refine lv_iload hx hb dL_law_1733 (lv_at hl 0 rfl) ?_
      refine lv_iconst (v := 2) hx hb dL_law_1735 (by decide) ?_
      refine lv_iadd hx hb dL_law_1736 ?_
      refine m_sld (v := nI (bx (xs (4 * q + 2)))) hx hb hC.hX hC.hbl hC.hbA hS (k := 4 * q + 2) (m_add rfl rfl) (by omega) hC.hL e2 dL_law_1737 ?_
      refine lv_aload_n hx hb dL_law_1738 rfl (lv_at hl 2 rfl) ?_
      refine lw_w (Wc := (LCh cy a s9 s9)) (Wn := (LCh cy a S9 s9)) hC (w_heatAfter_ok l G cy kS vS a.aX a.na a.tr a.sn s9.hs a.hi a.sc s9.ep s9.fc a.ob s9.σ s9.υ j (bx (xs (4 * q + 2))) a.oA s9.fo hI.1.1 hj (by omega) h60) (vx_cwSW 4 hC.S9.2.2.2.2 gL_law_L_heatAfter rfl rfl rfl (by decide +kernel) ⟨Nat.le_of_ble_eq_true rfl, Nat.le_of_ble_eq_true rfl⟩) [0, 1, 2, 24] rfl (by decide) (SameL.cons SameA.rf (SameL.cons SameA.rf (SameL.cons SameA.st (SameL.cons SameA.one SameL.nil)))) (by subst eS; rfl) hP hD hS rfl hl.1 rfl (Nat.le_of_ble_eq_true rfl) ⟨hc0, hs0⟩ dL_law_1739 (fun H locs hP hD hS => ?_)
      refine lv_istore (lv' := [(6, .int 0), (5, .int (nI (4 * q))), (4, .ref a.oD), (3, .ref a.oA), (2, .ref a.am), (1, .ref a.aX), (0, .ref b)]) hx hb dL_law_1742 hl (by decide) rfl (fun ls hl => ?_)
      refine lv_aload_n hx hb dL_law_1744 rfl (lv_at hl 4 rfl) ?_
      refine lv_aload_n hx hb dL_law_1745 rfl (lv_at hl 6 rfl) ?_
      refine lv_iload hx hb dL_law_1746 (lv_at hl 1 rfl) ?_
      refine lv_iconst (v := 1) hx hb dL_law_1748 (by decide) ?_
      refine lv_iadd hx hb dL_law_1749 ?_
      refine m_sld (v := nI j) hx hb hC.hX hC.hbl hC.hbA hS (k := 4 * q + 1) (m_add rfl rfl) (by omega) hC.hL e1 dL_law_1750 ?_
      refine lv_aload_n hx hb dL_law_1751 rfl (lv_at hl 6 rfl) ?_
      refine lv_iload hx hb dL_law_1752 (lv_at hl 1 rfl) ?_
      refine lv_iconst (v := 2) hx hb dL_law_1754 (by decide) ?_
      refine lv_iadd hx hb dL_law_1755 ?_
      refine m_sld (v := nI (bx (xs (4 * q + 2)))) hx hb hC.hX hC.hbl hC.hbA hS (k := 4 * q + 2) (m_add rfl rfl) (by omega) hC.hL e2 dL_law_1756 ?_
      refine lw_m (s1 := S9) (t1 := s9) (Wn := (LCh cy a S9 S9)) hC (c_X8_heatAfter_ok l G cy a.am a.aS a.aBf a.aAs a.aSv a.aPa a.aOu a.aTx a.aCo s9.ct s9.nb s9.LN ((s9.x0).1) s9.CM s9.hs s9.th (bI (s9.x0).2) s9.ep s9.fc s9.σ j (bx (xs (4 * q + 2))) s9.fA hI.1.1 hj h7 (by omega) (hI.1.mids (by omega))) (cwV 2 hC.S9.2.2.2.2 gL_law_X8_heatAfter rfl rfl rfl (by decide +kernel) ⟨Nat.le_of_ble_eq_true rfl, Nat.le_of_ble_eq_true rfl⟩) [15, 16, 18] rfl (by decide) (SameR.cons (SameR.cons (SameR.cons SameR.nil))) (by subst eS; rfl) hP hD hS rfl hl.1 rfl (Nat.le_of_ble_eq_true rfl) ⟨hcn, hsn⟩ dL_law_1757 (fun H locs hP hD hS => ?_)
      refine lv_istore (lv' := [(7, .int (hB (tickN s9.σ (bx (xs (4 * q + 2)))) j)), (6, .int 0), (5, .int (nI (4 * q))), (4, .ref a.oD), (3, .ref a.oA), (2, .ref a.am), (1, .ref a.aX), (0, .ref b)]) hx hb dL_law_1760 hl (by decide) rfl (fun ls hl => ?_)
      refine lv_aload_n hx hb dL_law_1762 rfl (lv_at hl 5 rfl) ?_
      refine lw_thrown (s1 := S9) (t1 := S9) (k := 0) hC hP (by subst eS; rfl) hl.1 (Nat.le_of_ble_eq_true rfl) ⟨hcn, hsn⟩ dL_law_1763 ?_
      refine lv_iload hx hb dL_law_1766 (lv_at hl 1 rfl) ?_
      refine lv_icmp_eq (tgt := 1773) hx hb dL_law_1768 (by decide) (fun c_1768 => ?_) (fun c_1768 => ?_)
      rotate_left
      · exact absurd c_1768 (by decide)
      refine lv_iload hx hb dL_law_1773 (lv_at hl 1 rfl) ?_
      refine lv_if_ne (tgt := 1790) hx hb dL_law_1775 (by decide) (fun c_1775 => ?_) (fun c_1775 => ?_)
      · exact absurd c_1775 (by decide)
      refine lv_aload_n hx hb dL_law_1778 rfl (lv_at hl 4 rfl) ?_
      refine lv_iconst (v := 0) hx hb dL_law_1779 (by decide) ?_
      refine lw_ldL (s1 := S9) (t1 := S9) (x := (hB (tickN s9.σ (bx (xs (4 * q + 2)))) j).toInt64) hC hP (by subst eS; rfl) dL_law_1780 ?_
      refine lv_iload hx hb dL_law_1781 (lv_at hl 0 rfl) ?_
      refine lv_i2l hx hb dL_law_1783 rfl ?_
      refine m_lcmp0 hx hb rfl dL_law_1784 ?_
      refine lv_if_eq (tgt := 1790) hx hb dL_law_1785 (by decide) (fun c_1785 => ?_) (fun c_1785 => ?_)
      rotate_left
      · exact absurd c_1785 (by decide)
      refine lv_goto (tgt := 2890) hx hb dL_law_1790 (by decide) ?_
      refine W.widen (k := cells + 1) (n := slots + 6) (by omega) (by omega) ?_
      exact kk S9 H locs ls (LI.of (LI.mono hI (by omega)) (by subst eS; rfl) (by subst eS; rfl) (by subst eS; rfl) (by subst eS; rfl) (by subst eS; rfl) (by subst eS; rfl) (by subst eS; rfl) (by subst eS; rfl) (by subst eS; rfl) (by subst eS; rfl) (by subst eS; rfl) (by subst eS; rfl) (by subst eS; rfl) (by subst eS; rfl) (by subst eS; rfl)) hP hD hS (lv_sub hl [2, 3, 4, 5, 6, 7] rfl)
    · obtain ⟨S9, eS⟩ : ∃ z : LwS, z = (LwS.mk s9.σ s9.υ s9.ς s9.hs s9.ep s9.fc s9.ml 2 s9.nx s9.ct s9.nb s9.n s9.LN s9.CM s9.ρ s9.x s9.x0 s9.f s9.gk s9.g1 s9.g2 s9.g3 s9.fb s9.fB s9.fA s9.fV s9.fP s9.fO s9.g s9.fo s9.fd) := ⟨_, rfl⟩
      refine lv_aload_n hx hb dL_law_1725 rfl (lv_at hl 4 rfl) ?_
      refine lv_aload_n hx hb dL_law_1726 rfl (lv_at hl 5 rfl) ?_
      refine lv_iload hx hb dL_law_1727 (lv_at hl 0 rfl) ?_
      refine lv_iconst (v := 1) hx hb dL_law_1729 (by decide) ?_
      refine lv_iadd hx hb dL_law_1730 ?_
      refine m_sld (v := nI j) hx hb hC.hX hC.hbl hC.hbA hS (k := 4 * q + 1) (m_add rfl rfl) (by omega) hC.hL e1 dL_law_1731 ?_
      refine lv_aload_n hx hb dL_law_1732 rfl (lv_at hl 5 rfl) ?_
      refine lv_iload hx hb dL_law_1733 (lv_at hl 0 rfl) ?_
      refine lv_iconst (v := 2) hx hb dL_law_1735 (by decide) ?_
      refine lv_iadd hx hb dL_law_1736 ?_
      refine m_sld (v := xs (4 * q + 2)) hx hb hC.hX hC.hbl hC.hbA hS (k := 4 * q + 2) (m_add rfl rfl) (by omega) hC.hL rfl dL_law_1737 ?_
      refine lv_aload_n hx hb dL_law_1738 rfl (lv_at hl 2 rfl) ?_
      refine lw_w (Wc := (LCh cy a s9 s9)) (Wn := (LCh cy a S9 s9)) hC (w_heatAfter_2 l G cy kS vS a.aX a.na a.tr a.sn s9.hs a.hi a.sc s9.ep s9.fc a.ob s9.σ j (xs (4 * q + 2)) a.oA s9.fo hC.hl9 hI.1.1 hj h6) (vx_cwSW 4 hC.S9.2.2.2.2 gL_law_L_heatAfter rfl rfl rfl (by decide +kernel) ⟨Nat.le_of_ble_eq_true rfl, Nat.le_of_ble_eq_true rfl⟩) [0, 1, 24] rfl (by decide) (SameL.cons SameA.rf (SameL.cons SameA.rf (SameL.cons SameA.rf SameL.nil))) (by subst eS; rfl) hP hD hS rfl hl.1 rfl (Nat.le_of_ble_eq_true rfl) ⟨hc1, hs1⟩ dL_law_1739 (fun H locs hP hD hS => ?_)
      refine lv_istore (lv' := [(6, .int 2), (5, .int (nI (4 * q))), (4, .ref a.oD), (3, .ref a.oA), (2, .ref a.am), (1, .ref a.aX), (0, .ref b)]) hx hb dL_law_1742 hl (by decide) rfl (fun ls hl => ?_)
      refine lv_aload_n hx hb dL_law_1744 rfl (lv_at hl 4 rfl) ?_
      refine lv_aload_n hx hb dL_law_1745 rfl (lv_at hl 6 rfl) ?_
      refine lv_iload hx hb dL_law_1746 (lv_at hl 1 rfl) ?_
      refine lv_iconst (v := 1) hx hb dL_law_1748 (by decide) ?_
      refine lv_iadd hx hb dL_law_1749 ?_
      refine m_sld (v := nI j) hx hb hC.hX hC.hbl hC.hbA hS (k := 4 * q + 1) (m_add rfl rfl) (by omega) hC.hL e1 dL_law_1750 ?_
      refine lv_aload_n hx hb dL_law_1751 rfl (lv_at hl 6 rfl) ?_
      refine lv_iload hx hb dL_law_1752 (lv_at hl 1 rfl) ?_
      refine lv_iconst (v := 2) hx hb dL_law_1754 (by decide) ?_
      refine lv_iadd hx hb dL_law_1755 ?_
      refine m_sld (v := xs (4 * q + 2)) hx hb hC.hX hC.hbl hC.hbA hS (k := 4 * q + 2) (m_add rfl rfl) (by omega) hC.hL rfl dL_law_1756 ?_
      refine lw_m (s1 := S9) (t1 := s9) (Wn := (LCh cy a S9 S9)) hC (c_X8_heatAfter_no2 l G cy a.am a.aS a.aBf a.aAs a.aSv a.aPa a.aOu a.aTx a.aCo s9.ct s9.nb s9.LN ((s9.x0).1) s9.CM s9.hs s9.th (bI (s9.x0).2) s9.ep s9.fc s9.σ j (xs (4 * q + 2)) hI.1.1 hj h6) (cwV 2 hC.S9.2.2.2.2 gL_law_X8_heatAfter rfl rfl rfl (by decide +kernel) ⟨Nat.le_of_ble_eq_true rfl, Nat.le_of_ble_eq_true rfl⟩) [15, 16] rfl (by decide) (SameR.cons (SameR.cons SameR.nil)) (by subst eS; rfl) hP hD hS rfl hl.1 rfl (Nat.le_of_ble_eq_true rfl) ⟨hc1, hs1⟩ dL_law_1757 (fun H locs hP hD hS => ?_)
      refine lv_istore (lv' := [(7, .int 0), (6, .int 2), (5, .int (nI (4 * q))), (4, .ref a.oD), (3, .ref a.oA), (2, .ref a.am), (1, .ref a.aX), (0, .ref b)]) hx hb dL_law_1760 hl (by decide) rfl (fun ls hl => ?_)
      refine lv_aload_n hx hb dL_law_1762 rfl (lv_at hl 5 rfl) ?_
      refine lw_thrown (s1 := S9) (t1 := S9) (k := 2) hC hP (by subst eS; rfl) hl.1 (Nat.le_of_ble_eq_true rfl) ⟨hc1, hs1⟩ dL_law_1763 ?_
      refine lv_iload hx hb dL_law_1766 (lv_at hl 1 rfl) ?_
      refine lv_icmp_eq (tgt := 1773) hx hb dL_law_1768 (by decide) (fun c_1768 => ?_) (fun c_1768 => ?_)
      rotate_left
      · exact absurd c_1768 (by decide)
      refine lv_iload hx hb dL_law_1773 (lv_at hl 1 rfl) ?_
      refine lv_if_ne (tgt := 1790) hx hb dL_law_1775 (by decide) (fun c_1775 => ?_) (fun c_1775 => ?_)
      rotate_left
      · exact absurd c_1775 (by decide)
      refine lv_goto (tgt := 2890) hx hb dL_law_1790 (by decide) ?_
      exact kk S9 H locs ls (LI.of (LI.mono hI (by omega)) (by subst eS; rfl) (by subst eS; rfl) (by subst eS; rfl) (by subst eS; rfl) (by subst eS; rfl) (by subst eS; rfl) (by subst eS; rfl) (by subst eS; rfl) (by subst eS; rfl) (by subst eS; rfl) (by subst eS; rfl) (by subst eS; rfl) (by subst eS; rfl) (by subst eS; rfl) (by subst eS; rfl)) hP hD hS (lv_sub hl [2, 3, 4, 5, 6, 7] rfl)
  · obtain ⟨S9, eS⟩ : ∃ z : LwS, z = (LwS.mk s9.σ s9.υ s9.ς s9.hs s9.ep s9.fc s9.ml 1 s9.nx s9.ct s9.nb s9.n s9.LN s9.CM s9.ρ s9.x s9.x0 s9.f s9.gk s9.g1 s9.g2 s9.g3 s9.fb s9.fB s9.fA s9.fV s9.fP s9.fO s9.g s9.fo s9.fd) := ⟨_, rfl⟩
    refine lv_aload_n hx hb dL_law_1725 rfl (lv_at hl 4 rfl) ?_
    refine lv_aload_n hx hb dL_law_1726 rfl (lv_at hl 5 rfl) ?_
    refine lv_iload hx hb dL_law_1727 (lv_at hl 0 rfl) ?_
    refine lv_iconst (v := 1) hx hb dL_law_1729 (by decide) ?_
    refine lv_iadd hx hb dL_law_1730 ?_
    refine m_sld (v := xs (4 * q + 1)) hx hb hC.hX hC.hbl hC.hbA hS (k := 4 * q + 1) (m_add rfl rfl) (by omega) hC.hL rfl dL_law_1731 ?_
    refine lv_aload_n hx hb dL_law_1732 rfl (lv_at hl 5 rfl) ?_
    refine lv_iload hx hb dL_law_1733 (lv_at hl 0 rfl) ?_
    refine lv_iconst (v := 2) hx hb dL_law_1735 (by decide) ?_
    refine lv_iadd hx hb dL_law_1736 ?_
    refine m_sld (v := xs (4 * q + 2)) hx hb hC.hX hC.hbl hC.hbA hS (k := 4 * q + 2) (m_add rfl rfl) (by omega) hC.hL rfl dL_law_1737 ?_
    refine lv_aload_n hx hb dL_law_1738 rfl (lv_at hl 2 rfl) ?_
    refine lw_w (Wc := (LCh cy a s9 s9)) (Wn := (LCh cy a S9 s9)) hC (w_heatAfter_1 l G cy kS vS a.aX a.na a.tr a.sn s9.hs a.hi a.sc s9.ep s9.fc a.ob s9.σ (xs (4 * q + 1)) (xs (4 * q + 2)) a.oA s9.fo hC.hl9 hI.1.1 hF) (vx_cwSW 4 hC.S9.2.2.2.2 gL_law_L_heatAfter rfl rfl rfl (by decide +kernel) ⟨Nat.le_of_ble_eq_true rfl, Nat.le_of_ble_eq_true rfl⟩) [0, 1, 24] rfl (by decide) (SameL.cons SameA.rf (SameL.cons SameA.rf (SameL.cons SameA.rf SameL.nil))) (by subst eS; rfl) hP hD hS rfl hl.1 rfl (Nat.le_of_ble_eq_true rfl) ⟨hc1, hs1⟩ dL_law_1739 (fun H locs hP hD hS => ?_)
    refine lv_istore (lv' := [(6, .int 1), (5, .int (nI (4 * q))), (4, .ref a.oD), (3, .ref a.oA), (2, .ref a.am), (1, .ref a.aX), (0, .ref b)]) hx hb dL_law_1742 hl (by decide) rfl (fun ls hl => ?_)
    refine lv_aload_n hx hb dL_law_1744 rfl (lv_at hl 4 rfl) ?_
    refine lv_aload_n hx hb dL_law_1745 rfl (lv_at hl 6 rfl) ?_
    refine lv_iload hx hb dL_law_1746 (lv_at hl 1 rfl) ?_
    refine lv_iconst (v := 1) hx hb dL_law_1748 (by decide) ?_
    refine lv_iadd hx hb dL_law_1749 ?_
    refine m_sld (v := xs (4 * q + 1)) hx hb hC.hX hC.hbl hC.hbA hS (k := 4 * q + 1) (m_add rfl rfl) (by omega) hC.hL rfl dL_law_1750 ?_
    refine lv_aload_n hx hb dL_law_1751 rfl (lv_at hl 6 rfl) ?_
    refine lv_iload hx hb dL_law_1752 (lv_at hl 1 rfl) ?_
    refine lv_iconst (v := 2) hx hb dL_law_1754 (by decide) ?_
    refine lv_iadd hx hb dL_law_1755 ?_
    refine m_sld (v := xs (4 * q + 2)) hx hb hC.hX hC.hbl hC.hbA hS (k := 4 * q + 2) (m_add rfl rfl) (by omega) hC.hL rfl dL_law_1756 ?_
    refine lw_m (s1 := S9) (t1 := s9) (Wn := (LCh cy a S9 S9)) hC (c_X8_heatAfter_no1 l G cy a.am a.aS a.aBf a.aAs a.aSv a.aPa a.aOu a.aTx a.aCo s9.ct s9.nb s9.LN ((s9.x0).1) s9.CM s9.hs s9.th (bI (s9.x0).2) s9.ep s9.fc s9.σ (xs (4 * q + 1)) (xs (4 * q + 2)) hI.1.1 hF) (cwV 2 hC.S9.2.2.2.2 gL_law_X8_heatAfter rfl rfl rfl (by decide +kernel) ⟨Nat.le_of_ble_eq_true rfl, Nat.le_of_ble_eq_true rfl⟩) [15, 16] rfl (by decide) (SameR.cons (SameR.cons SameR.nil)) (by subst eS; rfl) hP hD hS rfl hl.1 rfl (Nat.le_of_ble_eq_true rfl) ⟨hc1, hs1⟩ dL_law_1757 (fun H locs hP hD hS => ?_)
    refine lv_istore (lv' := [(7, .int 0), (6, .int 1), (5, .int (nI (4 * q))), (4, .ref a.oD), (3, .ref a.oA), (2, .ref a.am), (1, .ref a.aX), (0, .ref b)]) hx hb dL_law_1760 hl (by decide) rfl (fun ls hl => ?_)
    refine lv_aload_n hx hb dL_law_1762 rfl (lv_at hl 5 rfl) ?_
    refine lw_thrown (s1 := S9) (t1 := S9) (k := 1) hC hP (by subst eS; rfl) hl.1 (Nat.le_of_ble_eq_true rfl) ⟨hc1, hs1⟩ dL_law_1763 ?_
    refine lv_iload hx hb dL_law_1766 (lv_at hl 1 rfl) ?_
    refine lv_icmp_eq (tgt := 1773) hx hb dL_law_1768 (by decide) (fun c_1768 => ?_) (fun c_1768 => ?_)
    rotate_left
    · exact absurd c_1768 (by decide)
    refine lv_iload hx hb dL_law_1773 (lv_at hl 1 rfl) ?_
    refine lv_if_ne (tgt := 1790) hx hb dL_law_1775 (by decide) (fun c_1775 => ?_) (fun c_1775 => ?_)
    rotate_left
    · exact absurd c_1775 (by decide)
    refine lv_goto (tgt := 2890) hx hb dL_law_1790 (by decide) ?_
    exact kk S9 H locs ls (LI.of (LI.mono hI (by omega)) (by subst eS; rfl) (by subst eS; rfl) (by subst eS; rfl) (by subst eS; rfl) (by subst eS; rfl) (by subst eS; rfl) (by subst eS; rfl) (by subst eS; rfl) (by subst eS; rfl) (by subst eS; rfl) (by subst eS; rfl) (by subst eS; rfl) (by subst eS; rfl) (by subst eS; rfl) (by subst eS; rfl)) hP hD hS (lv_sub hl [2, 3, 4, 5, 6, 7] rfl)

set_option maxRecDepth 100000 in
set_option maxHeartbeats 4000000 in
theorem case_27 {p : Program} {l : Launch} {e : Env} {s : State} {m : MethodId} {below : List Frame} {meth : Method} {cq : Code} {G : va_G} {cy : Nat → ClassId} {kS vS : Nat → Nat} {A : Nat → Prop} {a : LA} {b L q : Nat} {xs : Nat → Int32} {Q : State → Prop} {n0 cells slots : Nat} (hC : LC l p s m meth cq G cy kS vS A b L xs) (hq : 4 * q + 4 ≤ L) (hn0 : n0 < 1000000) (hc1 : cells + 1 ≤ room_1.cells) (hs1 : slots + 6 ≤ room_1.slots) (kk : LGo p l e s m below meth cq G cy A a b q Q (n0 + 300) (cells + 1) (slots + 6) 2890) : LGo p l e s m below meth cq G cy A a b q Q n0 cells slots 1793 := by
  intro s9 H locs ls hI hP hD hS hl
  obtain ⟨hx, hb, hml, hown, hts⟩ := id hC.S9
  have hL9 := hC.hL
  have hc0 : cells + 0 ≤ room_1.cells := Nat.le_of_succ_le hc1
  have hcn : cells ≤ room_1.cells := Nat.le_of_succ_le hc1
  have hs0 : slots + 0 ≤ room_1.slots := Nat.le_trans (Nat.le_add_right slots 6) hs1
  have hsn : slots ≤ room_1.slots := Nat.le_trans (Nat.le_add_right slots 6) hs1
  have ho := hI.1.1
  have hN0 := ho.1
  have hM0 := ho.2.1
  have hE0 := ho.2.2.1
  have hnx := hI.2.2.2.2.1
  have hct := hI.2.2.2.2.2.1
  obtain ⟨S9, eS⟩ : ∃ z : LwS, z = (LwS.mk s9.σ s9.υ s9.ς s9.hs s9.ep s9.fc s9.ml 0 s9.nx s9.ct s9.nb s9.n s9.LN s9.CM s9.ρ s9.x s9.x0 s9.f s9.gk s9.g1 s9.g2 s9.g3 s9.fb s9.fB s9.fA s9.fV s9.fP s9.fO s9.g s9.fo s9.fd) := ⟨_, rfl⟩
  refine lv_aload_n hx hb dL_law_1793 rfl (lv_at hl 4 rfl) ?_
  refine c_roVi hC.S9 (c_X7_duckCount l G cy a.aX a.na a.tr a.sn s9.hs a.hi a.sc s9.ep s9.fc a.ob s9.σ hI.1.1) (cwV 0 hC.S9.2.2.2.2 gL_law_X7_duckCount rfl rfl rfl (by decide +kernel) ⟨Nat.le_of_ble_eq_true rfl, Nat.le_of_ble_eq_true rfl⟩) PB.blind (va_recv hC.hK.1 hP (ci := 11) (q0 := offs (LCh cy a s9 s9) 0 + 0) rfl ((fl_at (Wc := (LCh cy a s9 s9)) (j := 0) (i := 0) (c := [(a.aX, .inr (11, [.ref (a.na 0), .ref (a.tr 0), .ref (a.sn 0), .int s9.hs, .ref a.hi, .ref a.sc, .int s9.ep, .int s9.fc, .ref a.ob]))]) rfl (Nat.le_of_ble_eq_true rfl)).trans rfl)) (PB.at hC.hK (PpartC (Wc := (LCh cy a s9 s9)) (cs := [[(a.aX, .inr (11, [.ref (a.na 0), .ref (a.tr 0), .ref (a.sn 0), .int s9.hs, .ref a.hi, .ref a.sc, .int s9.ep, .int s9.fc, .ref a.ob]))], sWd cy a.na s9.σ]) hP [0, 1] rfl)) rfl hl.1 rfl (Nat.le_of_ble_eq_true rfl) ⟨hcn, hsn⟩ dL_law_1794 ?_
  refine lv_aload_n hx hb dL_law_1797 rfl (lv_at hl 3 rfl) ?_
  refine lw_m (s1 := s9) (t1 := s9) (Wn := (LCh cy a s9 S9)) hC (c_X8_duckCount l G cy a.am a.aS a.aBf a.aAs a.aSv a.aPa a.aOu a.aTx a.aCo s9.ct s9.nb s9.LN ((s9.x0).1) s9.CM s9.hs s9.th (bI (s9.x0).2) s9.ep s9.fc s9.σ hI.1.1) (cwV 0 hC.S9.2.2.2.2 gL_law_X8_duckCount rfl rfl rfl (by decide +kernel) ⟨Nat.le_of_ble_eq_true rfl, Nat.le_of_ble_eq_true rfl⟩) [15, 16] rfl (by decide) (SameR.cons (SameR.cons SameR.nil)) (by subst eS; rfl) hP hD hS rfl hl.1 rfl (Nat.le_of_ble_eq_true rfl) ⟨hcn, hsn⟩ dL_law_1798 (fun H locs hP hD hS => ?_)
  refine lv_icmp_eq (tgt := 2890) hx hb dL_law_1801 (by decide) (fun c_1801 => ?_) (fun c_1801 => ?_)
  rotate_left
  · exact absurd rfl c_1801
  have hP : va_P G vwCl (fl (LCh cy a S9 S9)) H := by rw [LCh.left (s := s9) (by subst eS; rfl) (by subst eS; rfl) (by subst eS; rfl) (by subst eS; rfl) (by subst eS; rfl) (by subst eS; rfl) (by subst eS; rfl) (by subst eS; rfl) (by subst eS; rfl) (by subst eS; rfl) (by subst eS; rfl) (by subst eS; rfl) (by subst eS; rfl) (by subst eS; rfl) (by subst eS; rfl) (by subst eS; rfl) (by subst eS; rfl) (by subst eS; rfl) (by subst eS; rfl) (by subst eS; rfl) (by subst eS; rfl) (by subst eS; rfl)]; exact hP
  have hD : va_D A (fl (LCh cy a S9 S9)) := by rw [LCh.left (s := s9) (by subst eS; rfl) (by subst eS; rfl) (by subst eS; rfl) (by subst eS; rfl) (by subst eS; rfl) (by subst eS; rfl) (by subst eS; rfl) (by subst eS; rfl) (by subst eS; rfl) (by subst eS; rfl) (by subst eS; rfl) (by subst eS; rfl) (by subst eS; rfl) (by subst eS; rfl) (by subst eS; rfl) (by subst eS; rfl) (by subst eS; rfl) (by subst eS; rfl) (by subst eS; rfl) (by subst eS; rfl) (by subst eS; rfl) (by subst eS; rfl)]; exact hD
  refine W.widen (k := cells + 1) (n := slots + 6) (by omega) (by omega) ?_
  exact kk S9 H locs ls (LI.of (LI.mono hI (by omega)) (by subst eS; rfl) (by subst eS; rfl) (by subst eS; rfl) (by subst eS; rfl) (by subst eS; rfl) (by subst eS; rfl) (by subst eS; rfl) (by subst eS; rfl) (by subst eS; rfl) (by subst eS; rfl) (by subst eS; rfl) (by subst eS; rfl) (by subst eS; rfl) (by subst eS; rfl) (by subst eS; rfl)) hP hD hS (lv_sub hl [0, 1, 2, 3, 4, 5] rfl)

set_option maxRecDepth 100000 in
set_option maxHeartbeats 4000000 in
theorem case_28 {p : Program} {l : Launch} {e : Env} {s : State} {m : MethodId} {below : List Frame} {meth : Method} {cq : Code} {G : va_G} {cy : Nat → ClassId} {kS vS : Nat → Nat} {A : Nat → Prop} {a : LA} {b L q : Nat} {xs : Nat → Int32} {Q : State → Prop} {n0 cells slots : Nat} (hC : LC l p s m meth cq G cy kS vS A b L xs) (hq : 4 * q + 4 ≤ L) (hn0 : n0 < 1000000) (hc1 : cells + 1 ≤ room_1.cells) (hs1 : slots + 6 ≤ room_1.slots) (kk : LGo p l e s m below meth cq G cy A a b q Q (n0 + 300) (cells + 1) (slots + 6) 2890) : LGo p l e s m below meth cq G cy A a b q Q n0 cells slots 1806 := by
  intro s9 H locs ls hI hP hD hS hl
  obtain ⟨hx, hb, hml, hown, hts⟩ := id hC.S9
  have hL9 := hC.hL
  have hc0 : cells + 0 ≤ room_1.cells := Nat.le_of_succ_le hc1
  have hcn : cells ≤ room_1.cells := Nat.le_of_succ_le hc1
  have hs0 : slots + 0 ≤ room_1.slots := Nat.le_trans (Nat.le_add_right slots 6) hs1
  have hsn : slots ≤ room_1.slots := Nat.le_trans (Nat.le_add_right slots 6) hs1
  have ho := hI.1.1
  have hN0 := ho.1
  have hM0 := ho.2.1
  have hE0 := ho.2.2.1
  have hnx := hI.2.2.2.2.1
  have hct := hI.2.2.2.2.2.1
  by_cases hF : inI (xs (4 * q + 1)) (nI (nD s9.σ)) = true
  · obtain ⟨j, hj, e1⟩ := ix_of (by omega) hF
    obtain ⟨S9, eS⟩ : ∃ z : LwS, z = (LwS.mk s9.σ s9.υ s9.ς s9.hs s9.ep s9.fc s9.ml 0 s9.nx s9.ct s9.nb s9.n s9.LN s9.CM s9.ρ s9.x s9.x0 s9.f s9.gk s9.g1 s9.g2 s9.g3 s9.fb s9.fB s9.fA s9.fV s9.fP s9.fO s9.g (fun _ => (bD s9.σ j).toInt64) s9.fd) := ⟨_, rfl⟩
    refine lv_aload_n hx hb dL_law_1806 rfl (lv_at hl 4 rfl) ?_
    refine lv_aload_n hx hb dL_law_1807 rfl (lv_at hl 5 rfl) ?_
    refine lv_iload hx hb dL_law_1808 (lv_at hl 0 rfl) ?_
    refine lv_iconst (v := 1) hx hb dL_law_1810 (by decide) ?_
    refine lv_iadd hx hb dL_law_1811 ?_
    refine m_sld (v := nI j) hx hb hC.hX hC.hbl hC.hbA hS (k := 4 * q + 1) (m_add rfl rfl) (by omega) hC.hL e1 dL_law_1812 ?_
    refine lv_aload_n hx hb dL_law_1813 rfl (lv_at hl 2 rfl) ?_
    refine lw_w (Wc := (LCh cy a s9 s9)) (Wn := (LCh cy a S9 s9)) hC (w_observedBath_ok l G cy kS vS a.aX a.na a.tr a.sn s9.hs a.hi a.sc s9.ep s9.fc a.ob s9.σ j a.oA s9.fo hI.1.1 hj) (vx_cwSW 3 hC.S9.2.2.2.2 gL_law_L_observedBath rfl rfl rfl (by decide +kernel) ⟨Nat.le_of_ble_eq_true rfl, Nat.le_of_ble_eq_true rfl⟩) [0, 1, 24] rfl (by decide) (SameL.cons SameA.rf (SameL.cons SameA.rf (SameL.cons SameA.one SameL.nil))) (by subst eS; rfl) hP hD hS rfl hl.1 rfl (Nat.le_of_ble_eq_true rfl) ⟨hc0, hs0⟩ dL_law_1814 (fun H locs hP hD hS => ?_)
    refine lv_istore (lv' := [(6, .int 0), (5, .int (nI (4 * q))), (4, .ref a.oD), (3, .ref a.oA), (2, .ref a.am), (1, .ref a.aX), (0, .ref b)]) hx hb dL_law_1817 hl (by decide) rfl (fun ls hl => ?_)
    refine lv_aload_n hx hb dL_law_1819 rfl (lv_at hl 4 rfl) ?_
    refine lv_aload_n hx hb dL_law_1820 rfl (lv_at hl 6 rfl) ?_
    refine lv_iload hx hb dL_law_1821 (lv_at hl 1 rfl) ?_
    refine lv_iconst (v := 1) hx hb dL_law_1823 (by decide) ?_
    refine lv_iadd hx hb dL_law_1824 ?_
    refine m_sld (v := nI j) hx hb hC.hX hC.hbl hC.hbA hS (k := 4 * q + 1) (m_add rfl rfl) (by omega) hC.hL e1 dL_law_1825 ?_
    refine lw_m (s1 := S9) (t1 := s9) (Wn := (LCh cy a S9 S9)) hC (c_X8_observedBath_ok l G cy a.am a.aS a.aBf a.aAs a.aSv a.aPa a.aOu a.aTx a.aCo s9.ct s9.nb s9.LN ((s9.x0).1) s9.CM s9.hs s9.th (bI (s9.x0).2) s9.ep s9.fc s9.σ j hI.1.1 hj) (cwV 1 hC.S9.2.2.2.2 gL_law_X8_observedBath rfl rfl rfl (by decide +kernel) ⟨Nat.le_of_ble_eq_true rfl, Nat.le_of_ble_eq_true rfl⟩) [15, 16] rfl (by decide) (SameR.cons (SameR.cons SameR.nil)) (by subst eS; rfl) hP hD hS rfl hl.1 rfl (Nat.le_of_ble_eq_true rfl) ⟨hcn, hsn⟩ dL_law_1826 (fun H locs hP hD hS => ?_)
    refine lv_istore (lv' := [(7, .int (bD s9.σ j)), (6, .int 0), (5, .int (nI (4 * q))), (4, .ref a.oD), (3, .ref a.oA), (2, .ref a.am), (1, .ref a.aX), (0, .ref b)]) hx hb dL_law_1829 hl (by decide) rfl (fun ls hl => ?_)
    refine lv_aload_n hx hb dL_law_1831 rfl (lv_at hl 5 rfl) ?_
    refine lw_thrown (s1 := S9) (t1 := S9) (k := 0) hC hP (by subst eS; rfl) hl.1 (Nat.le_of_ble_eq_true rfl) ⟨hcn, hsn⟩ dL_law_1832 ?_
    refine lv_iload hx hb dL_law_1835 (lv_at hl 1 rfl) ?_
    refine lv_icmp_eq (tgt := 1842) hx hb dL_law_1837 (by decide) (fun c_1837 => ?_) (fun c_1837 => ?_)
    rotate_left
    · exact absurd c_1837 (by decide)
    refine lv_iload hx hb dL_law_1842 (lv_at hl 1 rfl) ?_
    refine lv_if_ne (tgt := 1859) hx hb dL_law_1844 (by decide) (fun c_1844 => ?_) (fun c_1844 => ?_)
    · exact absurd c_1844 (by decide)
    refine lv_aload_n hx hb dL_law_1847 rfl (lv_at hl 4 rfl) ?_
    refine lv_iconst (v := 0) hx hb dL_law_1848 (by decide) ?_
    refine lw_ldL (s1 := S9) (t1 := S9) (x := (bD s9.σ j).toInt64) hC hP (by subst eS; rfl) dL_law_1849 ?_
    refine lv_iload hx hb dL_law_1850 (lv_at hl 0 rfl) ?_
    refine lv_i2l hx hb dL_law_1852 rfl ?_
    refine m_lcmp0 hx hb rfl dL_law_1853 ?_
    refine lv_if_eq (tgt := 1859) hx hb dL_law_1854 (by decide) (fun c_1854 => ?_) (fun c_1854 => ?_)
    rotate_left
    · exact absurd c_1854 (by decide)
    refine lv_goto (tgt := 2890) hx hb dL_law_1859 (by decide) ?_
    refine W.widen (k := cells + 1) (n := slots + 6) (by omega) (by omega) ?_
    exact kk S9 H locs ls (LI.of (LI.mono hI (by omega)) (by subst eS; rfl) (by subst eS; rfl) (by subst eS; rfl) (by subst eS; rfl) (by subst eS; rfl) (by subst eS; rfl) (by subst eS; rfl) (by subst eS; rfl) (by subst eS; rfl) (by subst eS; rfl) (by subst eS; rfl) (by subst eS; rfl) (by subst eS; rfl) (by subst eS; rfl) (by subst eS; rfl)) hP hD hS (lv_sub hl [2, 3, 4, 5, 6, 7] rfl)
  · obtain ⟨S9, eS⟩ : ∃ z : LwS, z = (LwS.mk s9.σ s9.υ s9.ς s9.hs s9.ep s9.fc s9.ml 1 s9.nx s9.ct s9.nb s9.n s9.LN s9.CM s9.ρ s9.x s9.x0 s9.f s9.gk s9.g1 s9.g2 s9.g3 s9.fb s9.fB s9.fA s9.fV s9.fP s9.fO s9.g s9.fo s9.fd) := ⟨_, rfl⟩
    refine lv_aload_n hx hb dL_law_1806 rfl (lv_at hl 4 rfl) ?_
    refine lv_aload_n hx hb dL_law_1807 rfl (lv_at hl 5 rfl) ?_
    refine lv_iload hx hb dL_law_1808 (lv_at hl 0 rfl) ?_
    refine lv_iconst (v := 1) hx hb dL_law_1810 (by decide) ?_
    refine lv_iadd hx hb dL_law_1811 ?_
    refine m_sld (v := xs (4 * q + 1)) hx hb hC.hX hC.hbl hC.hbA hS (k := 4 * q + 1) (m_add rfl rfl) (by omega) hC.hL rfl dL_law_1812 ?_
    refine lv_aload_n hx hb dL_law_1813 rfl (lv_at hl 2 rfl) ?_
    refine lw_w (Wc := (LCh cy a s9 s9)) (Wn := (LCh cy a S9 s9)) hC (w_observedBath_t l G cy kS vS a.aX a.na a.tr a.sn s9.hs a.hi a.sc s9.ep s9.fc a.ob s9.σ (xs (4 * q + 1)) a.oA s9.fo hC.hl9 hI.1.1 hF) (vx_cwSW 3 hC.S9.2.2.2.2 gL_law_L_observedBath rfl rfl rfl (by decide +kernel) ⟨Nat.le_of_ble_eq_true rfl, Nat.le_of_ble_eq_true rfl⟩) [0, 1, 24] rfl (by decide) (SameL.cons SameA.rf (SameL.cons SameA.rf (SameL.cons SameA.rf SameL.nil))) (by subst eS; rfl) hP hD hS rfl hl.1 rfl (Nat.le_of_ble_eq_true rfl) ⟨hc1, hs1⟩ dL_law_1814 (fun H locs hP hD hS => ?_)
    refine lv_istore (lv' := [(6, .int 1), (5, .int (nI (4 * q))), (4, .ref a.oD), (3, .ref a.oA), (2, .ref a.am), (1, .ref a.aX), (0, .ref b)]) hx hb dL_law_1817 hl (by decide) rfl (fun ls hl => ?_)
    refine lv_aload_n hx hb dL_law_1819 rfl (lv_at hl 4 rfl) ?_
    refine lv_aload_n hx hb dL_law_1820 rfl (lv_at hl 6 rfl) ?_
    refine lv_iload hx hb dL_law_1821 (lv_at hl 1 rfl) ?_
    refine lv_iconst (v := 1) hx hb dL_law_1823 (by decide) ?_
    refine lv_iadd hx hb dL_law_1824 ?_
    refine m_sld (v := xs (4 * q + 1)) hx hb hC.hX hC.hbl hC.hbA hS (k := 4 * q + 1) (m_add rfl rfl) (by omega) hC.hL rfl dL_law_1825 ?_
    refine lw_m (s1 := S9) (t1 := s9) (Wn := (LCh cy a S9 S9)) hC (c_X8_observedBath_no l G cy a.am a.aS a.aBf a.aAs a.aSv a.aPa a.aOu a.aTx a.aCo s9.ct s9.nb s9.LN ((s9.x0).1) s9.CM s9.hs s9.th (bI (s9.x0).2) s9.ep s9.fc s9.σ (xs (4 * q + 1)) hI.1.1 hF) (cwV 1 hC.S9.2.2.2.2 gL_law_X8_observedBath rfl rfl rfl (by decide +kernel) ⟨Nat.le_of_ble_eq_true rfl, Nat.le_of_ble_eq_true rfl⟩) [15, 16] rfl (by decide) (SameR.cons (SameR.cons SameR.nil)) (by subst eS; rfl) hP hD hS rfl hl.1 rfl (Nat.le_of_ble_eq_true rfl) ⟨hc1, hs1⟩ dL_law_1826 (fun H locs hP hD hS => ?_)
    refine lv_istore (lv' := [(7, .int 0), (6, .int 1), (5, .int (nI (4 * q))), (4, .ref a.oD), (3, .ref a.oA), (2, .ref a.am), (1, .ref a.aX), (0, .ref b)]) hx hb dL_law_1829 hl (by decide) rfl (fun ls hl => ?_)
    refine lv_aload_n hx hb dL_law_1831 rfl (lv_at hl 5 rfl) ?_
    refine lw_thrown (s1 := S9) (t1 := S9) (k := 1) hC hP (by subst eS; rfl) hl.1 (Nat.le_of_ble_eq_true rfl) ⟨hc1, hs1⟩ dL_law_1832 ?_
    refine lv_iload hx hb dL_law_1835 (lv_at hl 1 rfl) ?_
    refine lv_icmp_eq (tgt := 1842) hx hb dL_law_1837 (by decide) (fun c_1837 => ?_) (fun c_1837 => ?_)
    rotate_left
    · exact absurd c_1837 (by decide)
    refine lv_iload hx hb dL_law_1842 (lv_at hl 1 rfl) ?_
    refine lv_if_ne (tgt := 1859) hx hb dL_law_1844 (by decide) (fun c_1844 => ?_) (fun c_1844 => ?_)
    rotate_left
    · exact absurd c_1844 (by decide)
    refine lv_goto (tgt := 2890) hx hb dL_law_1859 (by decide) ?_
    exact kk S9 H locs ls (LI.of (LI.mono hI (by omega)) (by subst eS; rfl) (by subst eS; rfl) (by subst eS; rfl) (by subst eS; rfl) (by subst eS; rfl) (by subst eS; rfl) (by subst eS; rfl) (by subst eS; rfl) (by subst eS; rfl) (by subst eS; rfl) (by subst eS; rfl) (by subst eS; rfl) (by subst eS; rfl) (by subst eS; rfl) (by subst eS; rfl)) hP hD hS (lv_sub hl [2, 3, 4, 5, 6, 7] rfl)

set_option maxRecDepth 100000 in
set_option maxHeartbeats 4000000 in
theorem case_29 {p : Program} {l : Launch} {e : Env} {s : State} {m : MethodId} {below : List Frame} {meth : Method} {cq : Code} {G : va_G} {cy : Nat → ClassId} {kS vS : Nat → Nat} {A : Nat → Prop} {a : LA} {b L q : Nat} {xs : Nat → Int32} {Q : State → Prop} {n0 cells slots : Nat} (hC : LC l p s m meth cq G cy kS vS A b L xs) (hq : 4 * q + 4 ≤ L) (hn0 : n0 < 1000000) (hc1 : cells + 1 ≤ room_1.cells) (hs1 : slots + 6 ≤ room_1.slots) (kk : LGo p l e s m below meth cq G cy A a b q Q (n0 + 300) (cells + 1) (slots + 6) 2890) : LGo p l e s m below meth cq G cy A a b q Q n0 cells slots 1862 := by
  intro s9 H locs ls hI hP hD hS hl
  obtain ⟨hx, hb, hml, hown, hts⟩ := id hC.S9
  have hL9 := hC.hL
  have hc0 : cells + 0 ≤ room_1.cells := Nat.le_of_succ_le hc1
  have hcn : cells ≤ room_1.cells := Nat.le_of_succ_le hc1
  have hs0 : slots + 0 ≤ room_1.slots := Nat.le_trans (Nat.le_add_right slots 6) hs1
  have hsn : slots ≤ room_1.slots := Nat.le_trans (Nat.le_add_right slots 6) hs1
  have ho := hI.1.1
  have hN0 := ho.1
  have hM0 := ho.2.1
  have hE0 := ho.2.2.1
  have hnx := hI.2.2.2.2.1
  have hct := hI.2.2.2.2.2.1
  by_cases hF : inI (xs (4 * q + 1)) (nI (nD s9.σ)) = true
  · obtain ⟨j, hj, e1⟩ := ix_of (by omega) hF
    obtain ⟨S9, eS⟩ : ∃ z : LwS, z = (LwS.mk s9.σ s9.υ s9.ς s9.hs s9.ep s9.fc s9.ml 0 s9.nx s9.ct s9.nb s9.n s9.LN s9.CM s9.ρ s9.x s9.x0 s9.f s9.gk s9.g1 s9.g2 s9.g3 s9.fb s9.fB s9.fA s9.fV s9.fP s9.fO s9.g (fun _ => (lD s9.σ j).toInt64) s9.fd) := ⟨_, rfl⟩
    refine lv_aload_n hx hb dL_law_1862 rfl (lv_at hl 4 rfl) ?_
    refine lv_aload_n hx hb dL_law_1863 rfl (lv_at hl 5 rfl) ?_
    refine lv_iload hx hb dL_law_1864 (lv_at hl 0 rfl) ?_
    refine lv_iconst (v := 1) hx hb dL_law_1866 (by decide) ?_
    refine lv_iadd hx hb dL_law_1867 ?_
    refine m_sld (v := nI j) hx hb hC.hX hC.hbl hC.hbA hS (k := 4 * q + 1) (m_add rfl rfl) (by omega) hC.hL e1 dL_law_1868 ?_
    refine lv_aload_n hx hb dL_law_1869 rfl (lv_at hl 2 rfl) ?_
    refine lw_w (Wc := (LCh cy a s9 s9)) (Wn := (LCh cy a S9 s9)) hC (w_lowerBound_ok l G cy kS vS a.aX a.na a.tr a.sn s9.hs a.hi a.sc s9.ep s9.fc a.ob s9.σ j a.oA s9.fo hI.1.1 hj) (vx_cwSW 3 hC.S9.2.2.2.2 gL_law_L_lowerBound rfl rfl rfl (by decide +kernel) ⟨Nat.le_of_ble_eq_true rfl, Nat.le_of_ble_eq_true rfl⟩) [0, 1, 24] rfl (by decide) (SameL.cons SameA.rf (SameL.cons SameA.rf (SameL.cons SameA.one SameL.nil))) (by subst eS; rfl) hP hD hS rfl hl.1 rfl (Nat.le_of_ble_eq_true rfl) ⟨hc0, hs0⟩ dL_law_1870 (fun H locs hP hD hS => ?_)
    refine lv_istore (lv' := [(6, .int 0), (5, .int (nI (4 * q))), (4, .ref a.oD), (3, .ref a.oA), (2, .ref a.am), (1, .ref a.aX), (0, .ref b)]) hx hb dL_law_1873 hl (by decide) rfl (fun ls hl => ?_)
    refine lv_aload_n hx hb dL_law_1875 rfl (lv_at hl 4 rfl) ?_
    refine lv_aload_n hx hb dL_law_1876 rfl (lv_at hl 6 rfl) ?_
    refine lv_iload hx hb dL_law_1877 (lv_at hl 1 rfl) ?_
    refine lv_iconst (v := 1) hx hb dL_law_1879 (by decide) ?_
    refine lv_iadd hx hb dL_law_1880 ?_
    refine m_sld (v := nI j) hx hb hC.hX hC.hbl hC.hbA hS (k := 4 * q + 1) (m_add rfl rfl) (by omega) hC.hL e1 dL_law_1881 ?_
    refine lw_m (s1 := S9) (t1 := s9) (Wn := (LCh cy a S9 S9)) hC (c_X8_lowerBound_ok l G cy a.am a.aS a.aBf a.aAs a.aSv a.aPa a.aOu a.aTx a.aCo s9.ct s9.nb s9.LN ((s9.x0).1) s9.CM s9.hs s9.th (bI (s9.x0).2) s9.ep s9.fc s9.σ j hI.1.1 hj) (cwV 1 hC.S9.2.2.2.2 gL_law_X8_lowerBound rfl rfl rfl (by decide +kernel) ⟨Nat.le_of_ble_eq_true rfl, Nat.le_of_ble_eq_true rfl⟩) [15, 16] rfl (by decide) (SameR.cons (SameR.cons SameR.nil)) (by subst eS; rfl) hP hD hS rfl hl.1 rfl (Nat.le_of_ble_eq_true rfl) ⟨hcn, hsn⟩ dL_law_1882 (fun H locs hP hD hS => ?_)
    refine lv_istore (lv' := [(7, .int (lD s9.σ j)), (6, .int 0), (5, .int (nI (4 * q))), (4, .ref a.oD), (3, .ref a.oA), (2, .ref a.am), (1, .ref a.aX), (0, .ref b)]) hx hb dL_law_1885 hl (by decide) rfl (fun ls hl => ?_)
    refine lv_aload_n hx hb dL_law_1887 rfl (lv_at hl 5 rfl) ?_
    refine lw_thrown (s1 := S9) (t1 := S9) (k := 0) hC hP (by subst eS; rfl) hl.1 (Nat.le_of_ble_eq_true rfl) ⟨hcn, hsn⟩ dL_law_1888 ?_
    refine lv_iload hx hb dL_law_1891 (lv_at hl 1 rfl) ?_
    refine lv_icmp_eq (tgt := 1898) hx hb dL_law_1893 (by decide) (fun c_1893 => ?_) (fun c_1893 => ?_)
    rotate_left
    · exact absurd c_1893 (by decide)
    refine lv_iload hx hb dL_law_1898 (lv_at hl 1 rfl) ?_
    refine lv_if_ne (tgt := 1915) hx hb dL_law_1900 (by decide) (fun c_1900 => ?_) (fun c_1900 => ?_)
    · exact absurd c_1900 (by decide)
    refine lv_aload_n hx hb dL_law_1903 rfl (lv_at hl 4 rfl) ?_
    refine lv_iconst (v := 0) hx hb dL_law_1904 (by decide) ?_
    refine lw_ldL (s1 := S9) (t1 := S9) (x := (lD s9.σ j).toInt64) hC hP (by subst eS; rfl) dL_law_1905 ?_
    refine lv_iload hx hb dL_law_1906 (lv_at hl 0 rfl) ?_
    refine lv_i2l hx hb dL_law_1908 rfl ?_
    refine m_lcmp0 hx hb rfl dL_law_1909 ?_
    refine lv_if_eq (tgt := 1915) hx hb dL_law_1910 (by decide) (fun c_1910 => ?_) (fun c_1910 => ?_)
    rotate_left
    · exact absurd c_1910 (by decide)
    refine lv_goto (tgt := 2890) hx hb dL_law_1915 (by decide) ?_
    refine W.widen (k := cells + 1) (n := slots + 6) (by omega) (by omega) ?_
    exact kk S9 H locs ls (LI.of (LI.mono hI (by omega)) (by subst eS; rfl) (by subst eS; rfl) (by subst eS; rfl) (by subst eS; rfl) (by subst eS; rfl) (by subst eS; rfl) (by subst eS; rfl) (by subst eS; rfl) (by subst eS; rfl) (by subst eS; rfl) (by subst eS; rfl) (by subst eS; rfl) (by subst eS; rfl) (by subst eS; rfl) (by subst eS; rfl)) hP hD hS (lv_sub hl [2, 3, 4, 5, 6, 7] rfl)
  · obtain ⟨S9, eS⟩ : ∃ z : LwS, z = (LwS.mk s9.σ s9.υ s9.ς s9.hs s9.ep s9.fc s9.ml 1 s9.nx s9.ct s9.nb s9.n s9.LN s9.CM s9.ρ s9.x s9.x0 s9.f s9.gk s9.g1 s9.g2 s9.g3 s9.fb s9.fB s9.fA s9.fV s9.fP s9.fO s9.g s9.fo s9.fd) := ⟨_, rfl⟩
    refine lv_aload_n hx hb dL_law_1862 rfl (lv_at hl 4 rfl) ?_
    refine lv_aload_n hx hb dL_law_1863 rfl (lv_at hl 5 rfl) ?_
    refine lv_iload hx hb dL_law_1864 (lv_at hl 0 rfl) ?_
    refine lv_iconst (v := 1) hx hb dL_law_1866 (by decide) ?_
    refine lv_iadd hx hb dL_law_1867 ?_
    refine m_sld (v := xs (4 * q + 1)) hx hb hC.hX hC.hbl hC.hbA hS (k := 4 * q + 1) (m_add rfl rfl) (by omega) hC.hL rfl dL_law_1868 ?_
    refine lv_aload_n hx hb dL_law_1869 rfl (lv_at hl 2 rfl) ?_
    refine lw_w (Wc := (LCh cy a s9 s9)) (Wn := (LCh cy a S9 s9)) hC (w_lowerBound_t l G cy kS vS a.aX a.na a.tr a.sn s9.hs a.hi a.sc s9.ep s9.fc a.ob s9.σ (xs (4 * q + 1)) a.oA s9.fo hC.hl9 hI.1.1 hF) (vx_cwSW 3 hC.S9.2.2.2.2 gL_law_L_lowerBound rfl rfl rfl (by decide +kernel) ⟨Nat.le_of_ble_eq_true rfl, Nat.le_of_ble_eq_true rfl⟩) [0, 1, 24] rfl (by decide) (SameL.cons SameA.rf (SameL.cons SameA.rf (SameL.cons SameA.rf SameL.nil))) (by subst eS; rfl) hP hD hS rfl hl.1 rfl (Nat.le_of_ble_eq_true rfl) ⟨hc1, hs1⟩ dL_law_1870 (fun H locs hP hD hS => ?_)
    refine lv_istore (lv' := [(6, .int 1), (5, .int (nI (4 * q))), (4, .ref a.oD), (3, .ref a.oA), (2, .ref a.am), (1, .ref a.aX), (0, .ref b)]) hx hb dL_law_1873 hl (by decide) rfl (fun ls hl => ?_)
    refine lv_aload_n hx hb dL_law_1875 rfl (lv_at hl 4 rfl) ?_
    refine lv_aload_n hx hb dL_law_1876 rfl (lv_at hl 6 rfl) ?_
    refine lv_iload hx hb dL_law_1877 (lv_at hl 1 rfl) ?_
    refine lv_iconst (v := 1) hx hb dL_law_1879 (by decide) ?_
    refine lv_iadd hx hb dL_law_1880 ?_
    refine m_sld (v := xs (4 * q + 1)) hx hb hC.hX hC.hbl hC.hbA hS (k := 4 * q + 1) (m_add rfl rfl) (by omega) hC.hL rfl dL_law_1881 ?_
    refine lw_m (s1 := S9) (t1 := s9) (Wn := (LCh cy a S9 S9)) hC (c_X8_lowerBound_no l G cy a.am a.aS a.aBf a.aAs a.aSv a.aPa a.aOu a.aTx a.aCo s9.ct s9.nb s9.LN ((s9.x0).1) s9.CM s9.hs s9.th (bI (s9.x0).2) s9.ep s9.fc s9.σ (xs (4 * q + 1)) hI.1.1 hF) (cwV 1 hC.S9.2.2.2.2 gL_law_X8_lowerBound rfl rfl rfl (by decide +kernel) ⟨Nat.le_of_ble_eq_true rfl, Nat.le_of_ble_eq_true rfl⟩) [15, 16] rfl (by decide) (SameR.cons (SameR.cons SameR.nil)) (by subst eS; rfl) hP hD hS rfl hl.1 rfl (Nat.le_of_ble_eq_true rfl) ⟨hc1, hs1⟩ dL_law_1882 (fun H locs hP hD hS => ?_)
    refine lv_istore (lv' := [(7, .int 0), (6, .int 1), (5, .int (nI (4 * q))), (4, .ref a.oD), (3, .ref a.oA), (2, .ref a.am), (1, .ref a.aX), (0, .ref b)]) hx hb dL_law_1885 hl (by decide) rfl (fun ls hl => ?_)
    refine lv_aload_n hx hb dL_law_1887 rfl (lv_at hl 5 rfl) ?_
    refine lw_thrown (s1 := S9) (t1 := S9) (k := 1) hC hP (by subst eS; rfl) hl.1 (Nat.le_of_ble_eq_true rfl) ⟨hc1, hs1⟩ dL_law_1888 ?_
    refine lv_iload hx hb dL_law_1891 (lv_at hl 1 rfl) ?_
    refine lv_icmp_eq (tgt := 1898) hx hb dL_law_1893 (by decide) (fun c_1893 => ?_) (fun c_1893 => ?_)
    rotate_left
    · exact absurd c_1893 (by decide)
    refine lv_iload hx hb dL_law_1898 (lv_at hl 1 rfl) ?_
    refine lv_if_ne (tgt := 1915) hx hb dL_law_1900 (by decide) (fun c_1900 => ?_) (fun c_1900 => ?_)
    rotate_left
    · exact absurd c_1900 (by decide)
    refine lv_goto (tgt := 2890) hx hb dL_law_1915 (by decide) ?_
    exact kk S9 H locs ls (LI.of (LI.mono hI (by omega)) (by subst eS; rfl) (by subst eS; rfl) (by subst eS; rfl) (by subst eS; rfl) (by subst eS; rfl) (by subst eS; rfl) (by subst eS; rfl) (by subst eS; rfl) (by subst eS; rfl) (by subst eS; rfl) (by subst eS; rfl) (by subst eS; rfl) (by subst eS; rfl) (by subst eS; rfl) (by subst eS; rfl)) hP hD hS (lv_sub hl [2, 3, 4, 5, 6, 7] rfl)

set_option maxRecDepth 100000 in
set_option maxHeartbeats 4000000 in
theorem case_30 {p : Program} {l : Launch} {e : Env} {s : State} {m : MethodId} {below : List Frame} {meth : Method} {cq : Code} {G : va_G} {cy : Nat → ClassId} {kS vS : Nat → Nat} {A : Nat → Prop} {a : LA} {b L q : Nat} {xs : Nat → Int32} {Q : State → Prop} {n0 cells slots : Nat} (hC : LC l p s m meth cq G cy kS vS A b L xs) (hq : 4 * q + 4 ≤ L) (hn0 : n0 < 1000000) (hc1 : cells + 1 ≤ room_1.cells) (hs1 : slots + 6 ≤ room_1.slots) (kk : LGo p l e s m below meth cq G cy A a b q Q (n0 + 300) (cells + 1) (slots + 6) 2890) : LGo p l e s m below meth cq G cy A a b q Q n0 cells slots 1918 := by
  intro s9 H locs ls hI hP hD hS hl
  obtain ⟨hx, hb, hml, hown, hts⟩ := id hC.S9
  have hL9 := hC.hL
  have hc0 : cells + 0 ≤ room_1.cells := Nat.le_of_succ_le hc1
  have hcn : cells ≤ room_1.cells := Nat.le_of_succ_le hc1
  have hs0 : slots + 0 ≤ room_1.slots := Nat.le_trans (Nat.le_add_right slots 6) hs1
  have hsn : slots ≤ room_1.slots := Nat.le_trans (Nat.le_add_right slots 6) hs1
  have ho := hI.1.1
  have hN0 := ho.1
  have hM0 := ho.2.1
  have hE0 := ho.2.2.1
  have hnx := hI.2.2.2.2.1
  have hct := hI.2.2.2.2.2.1
  by_cases hF : inI (xs (4 * q + 1)) (nI (nD s9.σ)) = true
  · obtain ⟨j, hj, e1⟩ := ix_of (by omega) hF
    obtain ⟨S9, eS⟩ : ∃ z : LwS, z = (LwS.mk s9.σ s9.υ s9.ς s9.hs s9.ep s9.fc s9.ml 0 s9.nx s9.ct s9.nb s9.n s9.LN s9.CM s9.ρ s9.x s9.x0 s9.f s9.gk s9.g1 s9.g2 s9.g3 s9.fb s9.fB s9.fA s9.fV s9.fP s9.fO s9.g (fun _ => (uD s9.σ j).toInt64) s9.fd) := ⟨_, rfl⟩
    refine lv_aload_n hx hb dL_law_1918 rfl (lv_at hl 4 rfl) ?_
    refine lv_aload_n hx hb dL_law_1919 rfl (lv_at hl 5 rfl) ?_
    refine lv_iload hx hb dL_law_1920 (lv_at hl 0 rfl) ?_
    refine lv_iconst (v := 1) hx hb dL_law_1922 (by decide) ?_
    refine lv_iadd hx hb dL_law_1923 ?_
    refine m_sld (v := nI j) hx hb hC.hX hC.hbl hC.hbA hS (k := 4 * q + 1) (m_add rfl rfl) (by omega) hC.hL e1 dL_law_1924 ?_
    refine lv_aload_n hx hb dL_law_1925 rfl (lv_at hl 2 rfl) ?_
    refine lw_w (Wc := (LCh cy a s9 s9)) (Wn := (LCh cy a S9 s9)) hC (w_upperBound_ok l G cy kS vS a.aX a.na a.tr a.sn s9.hs a.hi a.sc s9.ep s9.fc a.ob s9.σ j a.oA s9.fo hI.1.1 hj) (vx_cwSW 3 hC.S9.2.2.2.2 gL_law_L_upperBound rfl rfl rfl (by decide +kernel) ⟨Nat.le_of_ble_eq_true rfl, Nat.le_of_ble_eq_true rfl⟩) [0, 1, 24] rfl (by decide) (SameL.cons SameA.rf (SameL.cons SameA.rf (SameL.cons SameA.one SameL.nil))) (by subst eS; rfl) hP hD hS rfl hl.1 rfl (Nat.le_of_ble_eq_true rfl) ⟨hc0, hs0⟩ dL_law_1926 (fun H locs hP hD hS => ?_)
    refine lv_istore (lv' := [(6, .int 0), (5, .int (nI (4 * q))), (4, .ref a.oD), (3, .ref a.oA), (2, .ref a.am), (1, .ref a.aX), (0, .ref b)]) hx hb dL_law_1929 hl (by decide) rfl (fun ls hl => ?_)
    refine lv_aload_n hx hb dL_law_1931 rfl (lv_at hl 4 rfl) ?_
    refine lv_aload_n hx hb dL_law_1932 rfl (lv_at hl 6 rfl) ?_
    refine lv_iload hx hb dL_law_1933 (lv_at hl 1 rfl) ?_
    refine lv_iconst (v := 1) hx hb dL_law_1935 (by decide) ?_
    refine lv_iadd hx hb dL_law_1936 ?_
    refine m_sld (v := nI j) hx hb hC.hX hC.hbl hC.hbA hS (k := 4 * q + 1) (m_add rfl rfl) (by omega) hC.hL e1 dL_law_1937 ?_
    refine lw_m (s1 := S9) (t1 := s9) (Wn := (LCh cy a S9 S9)) hC (c_X8_upperBound_ok l G cy a.am a.aS a.aBf a.aAs a.aSv a.aPa a.aOu a.aTx a.aCo s9.ct s9.nb s9.LN ((s9.x0).1) s9.CM s9.hs s9.th (bI (s9.x0).2) s9.ep s9.fc s9.σ j hI.1.1 hj) (cwV 1 hC.S9.2.2.2.2 gL_law_X8_upperBound rfl rfl rfl (by decide +kernel) ⟨Nat.le_of_ble_eq_true rfl, Nat.le_of_ble_eq_true rfl⟩) [15, 16] rfl (by decide) (SameR.cons (SameR.cons SameR.nil)) (by subst eS; rfl) hP hD hS rfl hl.1 rfl (Nat.le_of_ble_eq_true rfl) ⟨hcn, hsn⟩ dL_law_1938 (fun H locs hP hD hS => ?_)
    refine lv_istore (lv' := [(7, .int (uD s9.σ j)), (6, .int 0), (5, .int (nI (4 * q))), (4, .ref a.oD), (3, .ref a.oA), (2, .ref a.am), (1, .ref a.aX), (0, .ref b)]) hx hb dL_law_1941 hl (by decide) rfl (fun ls hl => ?_)
    refine lv_aload_n hx hb dL_law_1943 rfl (lv_at hl 5 rfl) ?_
    refine lw_thrown (s1 := S9) (t1 := S9) (k := 0) hC hP (by subst eS; rfl) hl.1 (Nat.le_of_ble_eq_true rfl) ⟨hcn, hsn⟩ dL_law_1944 ?_
    refine lv_iload hx hb dL_law_1947 (lv_at hl 1 rfl) ?_
    refine lv_icmp_eq (tgt := 1954) hx hb dL_law_1949 (by decide) (fun c_1949 => ?_) (fun c_1949 => ?_)
    rotate_left
    · exact absurd c_1949 (by decide)
    refine lv_iload hx hb dL_law_1954 (lv_at hl 1 rfl) ?_
    refine lv_if_ne (tgt := 1971) hx hb dL_law_1956 (by decide) (fun c_1956 => ?_) (fun c_1956 => ?_)
    · exact absurd c_1956 (by decide)
    refine lv_aload_n hx hb dL_law_1959 rfl (lv_at hl 4 rfl) ?_
    refine lv_iconst (v := 0) hx hb dL_law_1960 (by decide) ?_
    refine lw_ldL (s1 := S9) (t1 := S9) (x := (uD s9.σ j).toInt64) hC hP (by subst eS; rfl) dL_law_1961 ?_
    refine lv_iload hx hb dL_law_1962 (lv_at hl 0 rfl) ?_
    refine lv_i2l hx hb dL_law_1964 rfl ?_
    refine m_lcmp0 hx hb rfl dL_law_1965 ?_
    refine lv_if_eq (tgt := 1971) hx hb dL_law_1966 (by decide) (fun c_1966 => ?_) (fun c_1966 => ?_)
    rotate_left
    · exact absurd c_1966 (by decide)
    refine lv_goto (tgt := 2890) hx hb dL_law_1971 (by decide) ?_
    refine W.widen (k := cells + 1) (n := slots + 6) (by omega) (by omega) ?_
    exact kk S9 H locs ls (LI.of (LI.mono hI (by omega)) (by subst eS; rfl) (by subst eS; rfl) (by subst eS; rfl) (by subst eS; rfl) (by subst eS; rfl) (by subst eS; rfl) (by subst eS; rfl) (by subst eS; rfl) (by subst eS; rfl) (by subst eS; rfl) (by subst eS; rfl) (by subst eS; rfl) (by subst eS; rfl) (by subst eS; rfl) (by subst eS; rfl)) hP hD hS (lv_sub hl [2, 3, 4, 5, 6, 7] rfl)
  · obtain ⟨S9, eS⟩ : ∃ z : LwS, z = (LwS.mk s9.σ s9.υ s9.ς s9.hs s9.ep s9.fc s9.ml 1 s9.nx s9.ct s9.nb s9.n s9.LN s9.CM s9.ρ s9.x s9.x0 s9.f s9.gk s9.g1 s9.g2 s9.g3 s9.fb s9.fB s9.fA s9.fV s9.fP s9.fO s9.g s9.fo s9.fd) := ⟨_, rfl⟩
    refine lv_aload_n hx hb dL_law_1918 rfl (lv_at hl 4 rfl) ?_
    refine lv_aload_n hx hb dL_law_1919 rfl (lv_at hl 5 rfl) ?_
    refine lv_iload hx hb dL_law_1920 (lv_at hl 0 rfl) ?_
    refine lv_iconst (v := 1) hx hb dL_law_1922 (by decide) ?_
    refine lv_iadd hx hb dL_law_1923 ?_
    refine m_sld (v := xs (4 * q + 1)) hx hb hC.hX hC.hbl hC.hbA hS (k := 4 * q + 1) (m_add rfl rfl) (by omega) hC.hL rfl dL_law_1924 ?_
    refine lv_aload_n hx hb dL_law_1925 rfl (lv_at hl 2 rfl) ?_
    refine lw_w (Wc := (LCh cy a s9 s9)) (Wn := (LCh cy a S9 s9)) hC (w_upperBound_t l G cy kS vS a.aX a.na a.tr a.sn s9.hs a.hi a.sc s9.ep s9.fc a.ob s9.σ (xs (4 * q + 1)) a.oA s9.fo hC.hl9 hI.1.1 hF) (vx_cwSW 3 hC.S9.2.2.2.2 gL_law_L_upperBound rfl rfl rfl (by decide +kernel) ⟨Nat.le_of_ble_eq_true rfl, Nat.le_of_ble_eq_true rfl⟩) [0, 1, 24] rfl (by decide) (SameL.cons SameA.rf (SameL.cons SameA.rf (SameL.cons SameA.rf SameL.nil))) (by subst eS; rfl) hP hD hS rfl hl.1 rfl (Nat.le_of_ble_eq_true rfl) ⟨hc1, hs1⟩ dL_law_1926 (fun H locs hP hD hS => ?_)
    refine lv_istore (lv' := [(6, .int 1), (5, .int (nI (4 * q))), (4, .ref a.oD), (3, .ref a.oA), (2, .ref a.am), (1, .ref a.aX), (0, .ref b)]) hx hb dL_law_1929 hl (by decide) rfl (fun ls hl => ?_)
    refine lv_aload_n hx hb dL_law_1931 rfl (lv_at hl 4 rfl) ?_
    refine lv_aload_n hx hb dL_law_1932 rfl (lv_at hl 6 rfl) ?_
    refine lv_iload hx hb dL_law_1933 (lv_at hl 1 rfl) ?_
    refine lv_iconst (v := 1) hx hb dL_law_1935 (by decide) ?_
    refine lv_iadd hx hb dL_law_1936 ?_
    refine m_sld (v := xs (4 * q + 1)) hx hb hC.hX hC.hbl hC.hbA hS (k := 4 * q + 1) (m_add rfl rfl) (by omega) hC.hL rfl dL_law_1937 ?_
    refine lw_m (s1 := S9) (t1 := s9) (Wn := (LCh cy a S9 S9)) hC (c_X8_upperBound_no l G cy a.am a.aS a.aBf a.aAs a.aSv a.aPa a.aOu a.aTx a.aCo s9.ct s9.nb s9.LN ((s9.x0).1) s9.CM s9.hs s9.th (bI (s9.x0).2) s9.ep s9.fc s9.σ (xs (4 * q + 1)) hI.1.1 hF) (cwV 1 hC.S9.2.2.2.2 gL_law_X8_upperBound rfl rfl rfl (by decide +kernel) ⟨Nat.le_of_ble_eq_true rfl, Nat.le_of_ble_eq_true rfl⟩) [15, 16] rfl (by decide) (SameR.cons (SameR.cons SameR.nil)) (by subst eS; rfl) hP hD hS rfl hl.1 rfl (Nat.le_of_ble_eq_true rfl) ⟨hc1, hs1⟩ dL_law_1938 (fun H locs hP hD hS => ?_)
    refine lv_istore (lv' := [(7, .int 0), (6, .int 1), (5, .int (nI (4 * q))), (4, .ref a.oD), (3, .ref a.oA), (2, .ref a.am), (1, .ref a.aX), (0, .ref b)]) hx hb dL_law_1941 hl (by decide) rfl (fun ls hl => ?_)
    refine lv_aload_n hx hb dL_law_1943 rfl (lv_at hl 5 rfl) ?_
    refine lw_thrown (s1 := S9) (t1 := S9) (k := 1) hC hP (by subst eS; rfl) hl.1 (Nat.le_of_ble_eq_true rfl) ⟨hc1, hs1⟩ dL_law_1944 ?_
    refine lv_iload hx hb dL_law_1947 (lv_at hl 1 rfl) ?_
    refine lv_icmp_eq (tgt := 1954) hx hb dL_law_1949 (by decide) (fun c_1949 => ?_) (fun c_1949 => ?_)
    rotate_left
    · exact absurd c_1949 (by decide)
    refine lv_iload hx hb dL_law_1954 (lv_at hl 1 rfl) ?_
    refine lv_if_ne (tgt := 1971) hx hb dL_law_1956 (by decide) (fun c_1956 => ?_) (fun c_1956 => ?_)
    rotate_left
    · exact absurd c_1956 (by decide)
    refine lv_goto (tgt := 2890) hx hb dL_law_1971 (by decide) ?_
    exact kk S9 H locs ls (LI.of (LI.mono hI (by omega)) (by subst eS; rfl) (by subst eS; rfl) (by subst eS; rfl) (by subst eS; rfl) (by subst eS; rfl) (by subst eS; rfl) (by subst eS; rfl) (by subst eS; rfl) (by subst eS; rfl) (by subst eS; rfl) (by subst eS; rfl) (by subst eS; rfl) (by subst eS; rfl) (by subst eS; rfl) (by subst eS; rfl)) hP hD hS (lv_sub hl [2, 3, 4, 5, 6, 7] rfl)

set_option maxRecDepth 100000 in
set_option maxHeartbeats 4000000 in
theorem case_31 {p : Program} {l : Launch} {e : Env} {s : State} {m : MethodId} {below : List Frame} {meth : Method} {cq : Code} {G : va_G} {cy : Nat → ClassId} {kS vS : Nat → Nat} {A : Nat → Prop} {a : LA} {b L q : Nat} {xs : Nat → Int32} {Q : State → Prop} {n0 cells slots : Nat} (hC : LC l p s m meth cq G cy kS vS A b L xs) (hq : 4 * q + 4 ≤ L) (hn0 : n0 < 1000000) (hc1 : cells + 1 ≤ room_1.cells) (hs1 : slots + 6 ≤ room_1.slots) (kk : LGo p l e s m below meth cq G cy A a b q Q (n0 + 300) (cells + 1) (slots + 6) 2890) : LGo p l e s m below meth cq G cy A a b q Q n0 cells slots 1974 := by
  intro s9 H locs ls hI hP hD hS hl
  obtain ⟨hx, hb, hml, hown, hts⟩ := id hC.S9
  have hL9 := hC.hL
  have hc0 : cells + 0 ≤ room_1.cells := Nat.le_of_succ_le hc1
  have hcn : cells ≤ room_1.cells := Nat.le_of_succ_le hc1
  have hs0 : slots + 0 ≤ room_1.slots := Nat.le_trans (Nat.le_add_right slots 6) hs1
  have hsn : slots ≤ room_1.slots := Nat.le_trans (Nat.le_add_right slots 6) hs1
  have ho := hI.1.1
  have hN0 := ho.1
  have hM0 := ho.2.1
  have hE0 := ho.2.2.1
  have hnx := hI.2.2.2.2.1
  have hct := hI.2.2.2.2.2.1
  by_cases hF : inI (xs (4 * q + 1)) (nI (nD s9.σ)) = true
  · obtain ⟨j, hj, e1⟩ := ix_of (by omega) hF
    by_cases hz : (if plS s9.σ j = true then (1 : Int32) else 0) = 0
    · obtain ⟨S9, eS⟩ : ∃ z : LwS, z = (LwS.mk s9.σ s9.υ s9.ς s9.hs s9.ep s9.fc s9.ml 0 s9.nx s9.ct s9.nb s9.n s9.LN s9.CM s9.ρ s9.x s9.x0 s9.f s9.gk s9.g1 s9.g2 s9.g3 s9.fb s9.fB s9.fA s9.fV s9.fP s9.fO s9.g (fun _ => vL (if plS s9.σ j = true then 1 else 0)) s9.fd) := ⟨_, rfl⟩
      refine lv_aload_n hx hb dL_law_1974 rfl (lv_at hl 4 rfl) ?_
      refine lv_aload_n hx hb dL_law_1975 rfl (lv_at hl 5 rfl) ?_
      refine lv_iload hx hb dL_law_1976 (lv_at hl 0 rfl) ?_
      refine lv_iconst (v := 1) hx hb dL_law_1978 (by decide) ?_
      refine lv_iadd hx hb dL_law_1979 ?_
      refine m_sld (v := nI j) hx hb hC.hX hC.hbl hC.hbA hS (k := 4 * q + 1) (m_add rfl rfl) (by omega) hC.hL e1 dL_law_1980 ?_
      refine lv_aload_n hx hb dL_law_1981 rfl (lv_at hl 2 rfl) ?_
      refine lw_w (Wc := (LCh cy a s9 s9)) (Wn := (LCh cy a S9 s9)) hC (w_isContent_ok l G cy kS vS a.aX a.na a.tr a.sn s9.hs a.hi a.sc s9.ep s9.fc a.ob s9.σ j a.oA s9.fo hI.1.1 hj) (vx_cwSW 3 hC.S9.2.2.2.2 gL_law_L_isContent rfl rfl rfl (by decide +kernel) ⟨Nat.le_of_ble_eq_true rfl, Nat.le_of_ble_eq_true rfl⟩) [0, 1, 24] rfl (by decide) (SameL.cons SameA.rf (SameL.cons SameA.rf (SameL.cons SameA.one SameL.nil))) (by subst eS; rfl) hP hD hS rfl hl.1 rfl (Nat.le_of_ble_eq_true rfl) ⟨hc0, hs0⟩ dL_law_1982 (fun H locs hP hD hS => ?_)
      refine lv_istore (lv' := [(6, .int 0), (5, .int (nI (4 * q))), (4, .ref a.oD), (3, .ref a.oA), (2, .ref a.am), (1, .ref a.aX), (0, .ref b)]) hx hb dL_law_1985 hl (by decide) rfl (fun ls hl => ?_)
      refine lv_aload_n hx hb dL_law_1987 rfl (lv_at hl 4 rfl) ?_
      refine lv_aload_n hx hb dL_law_1988 rfl (lv_at hl 6 rfl) ?_
      refine lv_iload hx hb dL_law_1989 (lv_at hl 1 rfl) ?_
      refine lv_iconst (v := 1) hx hb dL_law_1991 (by decide) ?_
      refine lv_iadd hx hb dL_law_1992 ?_
      refine m_sld (v := nI j) hx hb hC.hX hC.hbl hC.hbA hS (k := 4 * q + 1) (m_add rfl rfl) (by omega) hC.hL e1 dL_law_1993 ?_
      refine lw_m (s1 := S9) (t1 := s9) (Wn := (LCh cy a S9 S9)) hC (c_X8_isContent_ok l G cy a.am a.aS a.aBf a.aAs a.aSv a.aPa a.aOu a.aTx a.aCo s9.ct s9.nb s9.LN ((s9.x0).1) s9.CM s9.hs s9.th (bI (s9.x0).2) s9.ep s9.fc s9.σ j hI.1.1 hj) (cwV 1 hC.S9.2.2.2.2 gL_law_X8_isContent rfl rfl rfl (by decide +kernel) ⟨Nat.le_of_ble_eq_true rfl, Nat.le_of_ble_eq_true rfl⟩) [15, 16] rfl (by decide) (SameR.cons (SameR.cons SameR.nil)) (by subst eS; rfl) hP hD hS rfl hl.1 rfl (Nat.le_of_ble_eq_true rfl) ⟨hcn, hsn⟩ dL_law_1994 (fun H locs hP hD hS => ?_)
      refine lv_istore (lv' := [(7, .int (if plS s9.σ j = true then 1 else 0)), (6, .int 0), (5, .int (nI (4 * q))), (4, .ref a.oD), (3, .ref a.oA), (2, .ref a.am), (1, .ref a.aX), (0, .ref b)]) hx hb dL_law_1997 hl (by decide) rfl (fun ls hl => ?_)
      refine lv_aload_n hx hb dL_law_1999 rfl (lv_at hl 5 rfl) ?_
      refine lw_thrown (s1 := S9) (t1 := S9) (k := 0) hC hP (by subst eS; rfl) hl.1 (Nat.le_of_ble_eq_true rfl) ⟨hcn, hsn⟩ dL_law_2000 ?_
      refine lv_iload hx hb dL_law_2003 (lv_at hl 1 rfl) ?_
      refine lv_icmp_eq (tgt := 2010) hx hb dL_law_2005 (by decide) (fun c_2005 => ?_) (fun c_2005 => ?_)
      rotate_left
      · exact absurd c_2005 (by decide)
      refine lv_iload hx hb dL_law_2010 (lv_at hl 1 rfl) ?_
      refine lv_if_ne (tgt := 2034) hx hb dL_law_2012 (by decide) (fun c_2012 => ?_) (fun c_2012 => ?_)
      · exact absurd c_2012 (by decide)
      refine lv_aload_n hx hb dL_law_2015 rfl (lv_at hl 4 rfl) ?_
      refine lv_iconst (v := 0) hx hb dL_law_2016 (by decide) ?_
      refine lw_ldL (s1 := S9) (t1 := S9) (x := vL (if plS s9.σ j = true then 1 else 0)) hC hP (by subst eS; rfl) dL_law_2017 ?_
      refine lv_iload hx hb dL_law_2018 (lv_at hl 0 rfl) ?_
      refine lv_if_eq (tgt := 2027) hx hb dL_law_2020 (by decide) (fun c_2020 => ?_) (fun c_2020 => ?_)
      rotate_left
      · exact absurd hz c_2020
      refine lv_lconst (v := 0) hx hb dL_law_2027 (by decide) ?_
      refine m_lcmp0 hx hb (if_pos hz) dL_law_2028 ?_
      refine lv_if_eq (tgt := 2034) hx hb dL_law_2029 (by decide) (fun c_2029 => ?_) (fun c_2029 => ?_)
      rotate_left
      · exact absurd c_2029 (by decide)
      refine lv_goto (tgt := 2890) hx hb dL_law_2034 (by decide) ?_
      refine W.widen (k := cells + 1) (n := slots + 6) (by omega) (by omega) ?_
      exact kk S9 H locs ls (LI.of (LI.mono hI (by omega)) (by subst eS; rfl) (by subst eS; rfl) (by subst eS; rfl) (by subst eS; rfl) (by subst eS; rfl) (by subst eS; rfl) (by subst eS; rfl) (by subst eS; rfl) (by subst eS; rfl) (by subst eS; rfl) (by subst eS; rfl) (by subst eS; rfl) (by subst eS; rfl) (by subst eS; rfl) (by subst eS; rfl)) hP hD hS (lv_sub hl [2, 3, 4, 5, 6, 7] rfl)
    · obtain ⟨S9, eS⟩ : ∃ z : LwS, z = (LwS.mk s9.σ s9.υ s9.ς s9.hs s9.ep s9.fc s9.ml 0 s9.nx s9.ct s9.nb s9.n s9.LN s9.CM s9.ρ s9.x s9.x0 s9.f s9.gk s9.g1 s9.g2 s9.g3 s9.fb s9.fB s9.fA s9.fV s9.fP s9.fO s9.g (fun _ => vL (if plS s9.σ j = true then 1 else 0)) s9.fd) := ⟨_, rfl⟩
      refine lv_aload_n hx hb dL_law_1974 rfl (lv_at hl 4 rfl) ?_
      refine lv_aload_n hx hb dL_law_1975 rfl (lv_at hl 5 rfl) ?_
      refine lv_iload hx hb dL_law_1976 (lv_at hl 0 rfl) ?_
      refine lv_iconst (v := 1) hx hb dL_law_1978 (by decide) ?_
      refine lv_iadd hx hb dL_law_1979 ?_
      refine m_sld (v := nI j) hx hb hC.hX hC.hbl hC.hbA hS (k := 4 * q + 1) (m_add rfl rfl) (by omega) hC.hL e1 dL_law_1980 ?_
      refine lv_aload_n hx hb dL_law_1981 rfl (lv_at hl 2 rfl) ?_
      refine lw_w (Wc := (LCh cy a s9 s9)) (Wn := (LCh cy a S9 s9)) hC (w_isContent_ok l G cy kS vS a.aX a.na a.tr a.sn s9.hs a.hi a.sc s9.ep s9.fc a.ob s9.σ j a.oA s9.fo hI.1.1 hj) (vx_cwSW 3 hC.S9.2.2.2.2 gL_law_L_isContent rfl rfl rfl (by decide +kernel) ⟨Nat.le_of_ble_eq_true rfl, Nat.le_of_ble_eq_true rfl⟩) [0, 1, 24] rfl (by decide) (SameL.cons SameA.rf (SameL.cons SameA.rf (SameL.cons SameA.one SameL.nil))) (by subst eS; rfl) hP hD hS rfl hl.1 rfl (Nat.le_of_ble_eq_true rfl) ⟨hc0, hs0⟩ dL_law_1982 (fun H locs hP hD hS => ?_)
      refine lv_istore (lv' := [(6, .int 0), (5, .int (nI (4 * q))), (4, .ref a.oD), (3, .ref a.oA), (2, .ref a.am), (1, .ref a.aX), (0, .ref b)]) hx hb dL_law_1985 hl (by decide) rfl (fun ls hl => ?_)
      refine lv_aload_n hx hb dL_law_1987 rfl (lv_at hl 4 rfl) ?_
      refine lv_aload_n hx hb dL_law_1988 rfl (lv_at hl 6 rfl) ?_
      refine lv_iload hx hb dL_law_1989 (lv_at hl 1 rfl) ?_
      refine lv_iconst (v := 1) hx hb dL_law_1991 (by decide) ?_
      refine lv_iadd hx hb dL_law_1992 ?_
      refine m_sld (v := nI j) hx hb hC.hX hC.hbl hC.hbA hS (k := 4 * q + 1) (m_add rfl rfl) (by omega) hC.hL e1 dL_law_1993 ?_
      refine lw_m (s1 := S9) (t1 := s9) (Wn := (LCh cy a S9 S9)) hC (c_X8_isContent_ok l G cy a.am a.aS a.aBf a.aAs a.aSv a.aPa a.aOu a.aTx a.aCo s9.ct s9.nb s9.LN ((s9.x0).1) s9.CM s9.hs s9.th (bI (s9.x0).2) s9.ep s9.fc s9.σ j hI.1.1 hj) (cwV 1 hC.S9.2.2.2.2 gL_law_X8_isContent rfl rfl rfl (by decide +kernel) ⟨Nat.le_of_ble_eq_true rfl, Nat.le_of_ble_eq_true rfl⟩) [15, 16] rfl (by decide) (SameR.cons (SameR.cons SameR.nil)) (by subst eS; rfl) hP hD hS rfl hl.1 rfl (Nat.le_of_ble_eq_true rfl) ⟨hcn, hsn⟩ dL_law_1994 (fun H locs hP hD hS => ?_)
      refine lv_istore (lv' := [(7, .int (if plS s9.σ j = true then 1 else 0)), (6, .int 0), (5, .int (nI (4 * q))), (4, .ref a.oD), (3, .ref a.oA), (2, .ref a.am), (1, .ref a.aX), (0, .ref b)]) hx hb dL_law_1997 hl (by decide) rfl (fun ls hl => ?_)
      refine lv_aload_n hx hb dL_law_1999 rfl (lv_at hl 5 rfl) ?_
      refine lw_thrown (s1 := S9) (t1 := S9) (k := 0) hC hP (by subst eS; rfl) hl.1 (Nat.le_of_ble_eq_true rfl) ⟨hcn, hsn⟩ dL_law_2000 ?_
      refine lv_iload hx hb dL_law_2003 (lv_at hl 1 rfl) ?_
      refine lv_icmp_eq (tgt := 2010) hx hb dL_law_2005 (by decide) (fun c_2005 => ?_) (fun c_2005 => ?_)
      rotate_left
      · exact absurd c_2005 (by decide)
      refine lv_iload hx hb dL_law_2010 (lv_at hl 1 rfl) ?_
      refine lv_if_ne (tgt := 2034) hx hb dL_law_2012 (by decide) (fun c_2012 => ?_) (fun c_2012 => ?_)
      · exact absurd c_2012 (by decide)
      refine lv_aload_n hx hb dL_law_2015 rfl (lv_at hl 4 rfl) ?_
      refine lv_iconst (v := 0) hx hb dL_law_2016 (by decide) ?_
      refine lw_ldL (s1 := S9) (t1 := S9) (x := vL (if plS s9.σ j = true then 1 else 0)) hC hP (by subst eS; rfl) dL_law_2017 ?_
      refine lv_iload hx hb dL_law_2018 (lv_at hl 0 rfl) ?_
      refine lv_if_eq (tgt := 2027) hx hb dL_law_2020 (by decide) (fun c_2020 => ?_) (fun c_2020 => ?_)
      · exact absurd c_2020 hz
      refine lv_lconst (v := 1) hx hb dL_law_2023 (by decide) ?_
      refine lv_goto (tgt := 2028) hx hb dL_law_2024 (by decide) ?_
      refine m_lcmp0 hx hb (if_neg hz) dL_law_2028 ?_
      refine lv_if_eq (tgt := 2034) hx hb dL_law_2029 (by decide) (fun c_2029 => ?_) (fun c_2029 => ?_)
      rotate_left
      · exact absurd c_2029 (by decide)
      refine lv_goto (tgt := 2890) hx hb dL_law_2034 (by decide) ?_
      refine W.widen (k := cells + 1) (n := slots + 6) (by omega) (by omega) ?_
      exact kk S9 H locs ls (LI.of (LI.mono hI (by omega)) (by subst eS; rfl) (by subst eS; rfl) (by subst eS; rfl) (by subst eS; rfl) (by subst eS; rfl) (by subst eS; rfl) (by subst eS; rfl) (by subst eS; rfl) (by subst eS; rfl) (by subst eS; rfl) (by subst eS; rfl) (by subst eS; rfl) (by subst eS; rfl) (by subst eS; rfl) (by subst eS; rfl)) hP hD hS (lv_sub hl [2, 3, 4, 5, 6, 7] rfl)
  · obtain ⟨S9, eS⟩ : ∃ z : LwS, z = (LwS.mk s9.σ s9.υ s9.ς s9.hs s9.ep s9.fc s9.ml 1 s9.nx s9.ct s9.nb s9.n s9.LN s9.CM s9.ρ s9.x s9.x0 s9.f s9.gk s9.g1 s9.g2 s9.g3 s9.fb s9.fB s9.fA s9.fV s9.fP s9.fO s9.g s9.fo s9.fd) := ⟨_, rfl⟩
    refine lv_aload_n hx hb dL_law_1974 rfl (lv_at hl 4 rfl) ?_
    refine lv_aload_n hx hb dL_law_1975 rfl (lv_at hl 5 rfl) ?_
    refine lv_iload hx hb dL_law_1976 (lv_at hl 0 rfl) ?_
    refine lv_iconst (v := 1) hx hb dL_law_1978 (by decide) ?_
    refine lv_iadd hx hb dL_law_1979 ?_
    refine m_sld (v := xs (4 * q + 1)) hx hb hC.hX hC.hbl hC.hbA hS (k := 4 * q + 1) (m_add rfl rfl) (by omega) hC.hL rfl dL_law_1980 ?_
    refine lv_aload_n hx hb dL_law_1981 rfl (lv_at hl 2 rfl) ?_
    refine lw_w (Wc := (LCh cy a s9 s9)) (Wn := (LCh cy a S9 s9)) hC (w_isContent_t l G cy kS vS a.aX a.na a.tr a.sn s9.hs a.hi a.sc s9.ep s9.fc a.ob s9.σ (xs (4 * q + 1)) a.oA s9.fo hC.hl9 hI.1.1 hF) (vx_cwSW 3 hC.S9.2.2.2.2 gL_law_L_isContent rfl rfl rfl (by decide +kernel) ⟨Nat.le_of_ble_eq_true rfl, Nat.le_of_ble_eq_true rfl⟩) [0, 1, 24] rfl (by decide) (SameL.cons SameA.rf (SameL.cons SameA.rf (SameL.cons SameA.rf SameL.nil))) (by subst eS; rfl) hP hD hS rfl hl.1 rfl (Nat.le_of_ble_eq_true rfl) ⟨hc1, hs1⟩ dL_law_1982 (fun H locs hP hD hS => ?_)
    refine lv_istore (lv' := [(6, .int 1), (5, .int (nI (4 * q))), (4, .ref a.oD), (3, .ref a.oA), (2, .ref a.am), (1, .ref a.aX), (0, .ref b)]) hx hb dL_law_1985 hl (by decide) rfl (fun ls hl => ?_)
    refine lv_aload_n hx hb dL_law_1987 rfl (lv_at hl 4 rfl) ?_
    refine lv_aload_n hx hb dL_law_1988 rfl (lv_at hl 6 rfl) ?_
    refine lv_iload hx hb dL_law_1989 (lv_at hl 1 rfl) ?_
    refine lv_iconst (v := 1) hx hb dL_law_1991 (by decide) ?_
    refine lv_iadd hx hb dL_law_1992 ?_
    refine m_sld (v := xs (4 * q + 1)) hx hb hC.hX hC.hbl hC.hbA hS (k := 4 * q + 1) (m_add rfl rfl) (by omega) hC.hL rfl dL_law_1993 ?_
    refine lw_m (s1 := S9) (t1 := s9) (Wn := (LCh cy a S9 S9)) hC (c_X8_isContent_no l G cy a.am a.aS a.aBf a.aAs a.aSv a.aPa a.aOu a.aTx a.aCo s9.ct s9.nb s9.LN ((s9.x0).1) s9.CM s9.hs s9.th (bI (s9.x0).2) s9.ep s9.fc s9.σ (xs (4 * q + 1)) hI.1.1 hF) (cwV 1 hC.S9.2.2.2.2 gL_law_X8_isContent rfl rfl rfl (by decide +kernel) ⟨Nat.le_of_ble_eq_true rfl, Nat.le_of_ble_eq_true rfl⟩) [15, 16] rfl (by decide) (SameR.cons (SameR.cons SameR.nil)) (by subst eS; rfl) hP hD hS rfl hl.1 rfl (Nat.le_of_ble_eq_true rfl) ⟨hc1, hs1⟩ dL_law_1994 (fun H locs hP hD hS => ?_)
    refine lv_istore (lv' := [(7, .int 0), (6, .int 1), (5, .int (nI (4 * q))), (4, .ref a.oD), (3, .ref a.oA), (2, .ref a.am), (1, .ref a.aX), (0, .ref b)]) hx hb dL_law_1997 hl (by decide) rfl (fun ls hl => ?_)
    refine lv_aload_n hx hb dL_law_1999 rfl (lv_at hl 5 rfl) ?_
    refine lw_thrown (s1 := S9) (t1 := S9) (k := 1) hC hP (by subst eS; rfl) hl.1 (Nat.le_of_ble_eq_true rfl) ⟨hc1, hs1⟩ dL_law_2000 ?_
    refine lv_iload hx hb dL_law_2003 (lv_at hl 1 rfl) ?_
    refine lv_icmp_eq (tgt := 2010) hx hb dL_law_2005 (by decide) (fun c_2005 => ?_) (fun c_2005 => ?_)
    rotate_left
    · exact absurd c_2005 (by decide)
    refine lv_iload hx hb dL_law_2010 (lv_at hl 1 rfl) ?_
    refine lv_if_ne (tgt := 2034) hx hb dL_law_2012 (by decide) (fun c_2012 => ?_) (fun c_2012 => ?_)
    rotate_left
    · exact absurd c_2012 (by decide)
    refine lv_goto (tgt := 2890) hx hb dL_law_2034 (by decide) ?_
    exact kk S9 H locs ls (LI.of (LI.mono hI (by omega)) (by subst eS; rfl) (by subst eS; rfl) (by subst eS; rfl) (by subst eS; rfl) (by subst eS; rfl) (by subst eS; rfl) (by subst eS; rfl) (by subst eS; rfl) (by subst eS; rfl) (by subst eS; rfl) (by subst eS; rfl) (by subst eS; rfl) (by subst eS; rfl) (by subst eS; rfl) (by subst eS; rfl)) hP hD hS (lv_sub hl [2, 3, 4, 5, 6, 7] rfl)

set_option maxRecDepth 100000 in
set_option maxHeartbeats 4000000 in
theorem case_32 {p : Program} {l : Launch} {e : Env} {s : State} {m : MethodId} {below : List Frame} {meth : Method} {cq : Code} {G : va_G} {cy : Nat → ClassId} {kS vS : Nat → Nat} {A : Nat → Prop} {a : LA} {b L q : Nat} {xs : Nat → Int32} {Q : State → Prop} {n0 cells slots : Nat} (hC : LC l p s m meth cq G cy kS vS A b L xs) (hq : 4 * q + 4 ≤ L) (hn0 : n0 < 1000000) (hc1 : cells + 1 ≤ room_1.cells) (hs1 : slots + 6 ≤ room_1.slots) (kk : LGo p l e s m below meth cq G cy A a b q Q (n0 + 300) (cells + 1) (slots + 6) 2890) : LGo p l e s m below meth cq G cy A a b q Q n0 cells slots 2037 := by
  intro s9 H locs ls hI hP hD hS hl
  obtain ⟨hx, hb, hml, hown, hts⟩ := id hC.S9
  have hL9 := hC.hL
  have hc0 : cells + 0 ≤ room_1.cells := Nat.le_of_succ_le hc1
  have hcn : cells ≤ room_1.cells := Nat.le_of_succ_le hc1
  have hs0 : slots + 0 ≤ room_1.slots := Nat.le_trans (Nat.le_add_right slots 6) hs1
  have hsn : slots ≤ room_1.slots := Nat.le_trans (Nat.le_add_right slots 6) hs1
  have ho := hI.1.1
  have hN0 := ho.1
  have hM0 := ho.2.1
  have hE0 := ho.2.2.1
  have hnx := hI.2.2.2.2.1
  have hct := hI.2.2.2.2.2.1
  by_cases hF : inI (xs (4 * q + 1)) (nI (nD s9.σ)) = true
  · obtain ⟨j, hj, e1⟩ := ix_of (by omega) hF
    obtain ⟨S9, eS⟩ : ∃ z : LwS, z = (LwS.mk s9.σ s9.υ s9.ς s9.hs s9.ep s9.fc s9.ml 0 s9.nx s9.ct s9.nb s9.n s9.LN s9.CM s9.ρ s9.x s9.x0 s9.f s9.gk s9.g1 s9.g2 s9.g3 s9.fb s9.fB s9.fA s9.fV s9.fP s9.fO s9.g (fun _ => (qD s9.σ j).toInt64) s9.fd) := ⟨_, rfl⟩
    refine lv_aload_n hx hb dL_law_2037 rfl (lv_at hl 4 rfl) ?_
    refine lv_aload_n hx hb dL_law_2038 rfl (lv_at hl 5 rfl) ?_
    refine lv_iload hx hb dL_law_2039 (lv_at hl 0 rfl) ?_
    refine lv_iconst (v := 1) hx hb dL_law_2041 (by decide) ?_
    refine lv_iadd hx hb dL_law_2042 ?_
    refine m_sld (v := nI j) hx hb hC.hX hC.hbl hC.hbA hS (k := 4 * q + 1) (m_add rfl rfl) (by omega) hC.hL e1 dL_law_2043 ?_
    refine lv_aload_n hx hb dL_law_2044 rfl (lv_at hl 2 rfl) ?_
    refine lw_w (Wc := (LCh cy a s9 s9)) (Wn := (LCh cy a S9 s9)) hC (w_quacks_ok l G cy kS vS a.aX a.na a.tr a.sn s9.hs a.hi a.sc s9.ep s9.fc a.ob s9.σ j a.oA s9.fo hI.1.1 hj) (vx_cwSW 3 hC.S9.2.2.2.2 gL_law_L_quacks rfl rfl rfl (by decide +kernel) ⟨Nat.le_of_ble_eq_true rfl, Nat.le_of_ble_eq_true rfl⟩) [0, 1, 24] rfl (by decide) (SameL.cons SameA.rf (SameL.cons SameA.rf (SameL.cons SameA.one SameL.nil))) (by subst eS; rfl) hP hD hS rfl hl.1 rfl (Nat.le_of_ble_eq_true rfl) ⟨hc0, hs0⟩ dL_law_2045 (fun H locs hP hD hS => ?_)
    refine lv_istore (lv' := [(6, .int 0), (5, .int (nI (4 * q))), (4, .ref a.oD), (3, .ref a.oA), (2, .ref a.am), (1, .ref a.aX), (0, .ref b)]) hx hb dL_law_2048 hl (by decide) rfl (fun ls hl => ?_)
    refine lv_aload_n hx hb dL_law_2050 rfl (lv_at hl 4 rfl) ?_
    refine lv_aload_n hx hb dL_law_2051 rfl (lv_at hl 6 rfl) ?_
    refine lv_iload hx hb dL_law_2052 (lv_at hl 1 rfl) ?_
    refine lv_iconst (v := 1) hx hb dL_law_2054 (by decide) ?_
    refine lv_iadd hx hb dL_law_2055 ?_
    refine m_sld (v := nI j) hx hb hC.hX hC.hbl hC.hbA hS (k := 4 * q + 1) (m_add rfl rfl) (by omega) hC.hL e1 dL_law_2056 ?_
    refine lw_m (s1 := S9) (t1 := s9) (Wn := (LCh cy a S9 S9)) hC (c_X8_quacks_ok l G cy a.am a.aS a.aBf a.aAs a.aSv a.aPa a.aOu a.aTx a.aCo s9.ct s9.nb s9.LN ((s9.x0).1) s9.CM s9.hs s9.th (bI (s9.x0).2) s9.ep s9.fc s9.σ j hI.1.1 hj) (cwV 1 hC.S9.2.2.2.2 gL_law_X8_quacks rfl rfl rfl (by decide +kernel) ⟨Nat.le_of_ble_eq_true rfl, Nat.le_of_ble_eq_true rfl⟩) [15, 16] rfl (by decide) (SameR.cons (SameR.cons SameR.nil)) (by subst eS; rfl) hP hD hS rfl hl.1 rfl (Nat.le_of_ble_eq_true rfl) ⟨hcn, hsn⟩ dL_law_2057 (fun H locs hP hD hS => ?_)
    refine lv_istore (lv' := [(7, .int (qD s9.σ j)), (6, .int 0), (5, .int (nI (4 * q))), (4, .ref a.oD), (3, .ref a.oA), (2, .ref a.am), (1, .ref a.aX), (0, .ref b)]) hx hb dL_law_2060 hl (by decide) rfl (fun ls hl => ?_)
    refine lv_aload_n hx hb dL_law_2062 rfl (lv_at hl 5 rfl) ?_
    refine lw_thrown (s1 := S9) (t1 := S9) (k := 0) hC hP (by subst eS; rfl) hl.1 (Nat.le_of_ble_eq_true rfl) ⟨hcn, hsn⟩ dL_law_2063 ?_
    refine lv_iload hx hb dL_law_2066 (lv_at hl 1 rfl) ?_
    refine lv_icmp_eq (tgt := 2073) hx hb dL_law_2068 (by decide) (fun c_2068 => ?_) (fun c_2068 => ?_)
    rotate_left
    · exact absurd c_2068 (by decide)
    refine lv_iload hx hb dL_law_2073 (lv_at hl 1 rfl) ?_
    refine lv_if_ne (tgt := 2090) hx hb dL_law_2075 (by decide) (fun c_2075 => ?_) (fun c_2075 => ?_)
    · exact absurd c_2075 (by decide)
    refine lv_aload_n hx hb dL_law_2078 rfl (lv_at hl 4 rfl) ?_
    refine lv_iconst (v := 0) hx hb dL_law_2079 (by decide) ?_
    refine lw_ldL (s1 := S9) (t1 := S9) (x := (qD s9.σ j).toInt64) hC hP (by subst eS; rfl) dL_law_2080 ?_
    refine lv_iload hx hb dL_law_2081 (lv_at hl 0 rfl) ?_
    refine lv_i2l hx hb dL_law_2083 rfl ?_
    refine m_lcmp0 hx hb rfl dL_law_2084 ?_
    refine lv_if_eq (tgt := 2090) hx hb dL_law_2085 (by decide) (fun c_2085 => ?_) (fun c_2085 => ?_)
    rotate_left
    · exact absurd c_2085 (by decide)
    refine lv_goto (tgt := 2890) hx hb dL_law_2090 (by decide) ?_
    refine W.widen (k := cells + 1) (n := slots + 6) (by omega) (by omega) ?_
    exact kk S9 H locs ls (LI.of (LI.mono hI (by omega)) (by subst eS; rfl) (by subst eS; rfl) (by subst eS; rfl) (by subst eS; rfl) (by subst eS; rfl) (by subst eS; rfl) (by subst eS; rfl) (by subst eS; rfl) (by subst eS; rfl) (by subst eS; rfl) (by subst eS; rfl) (by subst eS; rfl) (by subst eS; rfl) (by subst eS; rfl) (by subst eS; rfl)) hP hD hS (lv_sub hl [2, 3, 4, 5, 6, 7] rfl)
  · obtain ⟨S9, eS⟩ : ∃ z : LwS, z = (LwS.mk s9.σ s9.υ s9.ς s9.hs s9.ep s9.fc s9.ml 1 s9.nx s9.ct s9.nb s9.n s9.LN s9.CM s9.ρ s9.x s9.x0 s9.f s9.gk s9.g1 s9.g2 s9.g3 s9.fb s9.fB s9.fA s9.fV s9.fP s9.fO s9.g s9.fo s9.fd) := ⟨_, rfl⟩
    refine lv_aload_n hx hb dL_law_2037 rfl (lv_at hl 4 rfl) ?_
    refine lv_aload_n hx hb dL_law_2038 rfl (lv_at hl 5 rfl) ?_
    refine lv_iload hx hb dL_law_2039 (lv_at hl 0 rfl) ?_
    refine lv_iconst (v := 1) hx hb dL_law_2041 (by decide) ?_
    refine lv_iadd hx hb dL_law_2042 ?_
    refine m_sld (v := xs (4 * q + 1)) hx hb hC.hX hC.hbl hC.hbA hS (k := 4 * q + 1) (m_add rfl rfl) (by omega) hC.hL rfl dL_law_2043 ?_
    refine lv_aload_n hx hb dL_law_2044 rfl (lv_at hl 2 rfl) ?_
    refine lw_w (Wc := (LCh cy a s9 s9)) (Wn := (LCh cy a S9 s9)) hC (w_quacks_t l G cy kS vS a.aX a.na a.tr a.sn s9.hs a.hi a.sc s9.ep s9.fc a.ob s9.σ (xs (4 * q + 1)) a.oA s9.fo hC.hl9 hI.1.1 hF) (vx_cwSW 3 hC.S9.2.2.2.2 gL_law_L_quacks rfl rfl rfl (by decide +kernel) ⟨Nat.le_of_ble_eq_true rfl, Nat.le_of_ble_eq_true rfl⟩) [0, 1, 24] rfl (by decide) (SameL.cons SameA.rf (SameL.cons SameA.rf (SameL.cons SameA.rf SameL.nil))) (by subst eS; rfl) hP hD hS rfl hl.1 rfl (Nat.le_of_ble_eq_true rfl) ⟨hc1, hs1⟩ dL_law_2045 (fun H locs hP hD hS => ?_)
    refine lv_istore (lv' := [(6, .int 1), (5, .int (nI (4 * q))), (4, .ref a.oD), (3, .ref a.oA), (2, .ref a.am), (1, .ref a.aX), (0, .ref b)]) hx hb dL_law_2048 hl (by decide) rfl (fun ls hl => ?_)
    refine lv_aload_n hx hb dL_law_2050 rfl (lv_at hl 4 rfl) ?_
    refine lv_aload_n hx hb dL_law_2051 rfl (lv_at hl 6 rfl) ?_
    refine lv_iload hx hb dL_law_2052 (lv_at hl 1 rfl) ?_
    refine lv_iconst (v := 1) hx hb dL_law_2054 (by decide) ?_
    refine lv_iadd hx hb dL_law_2055 ?_
    refine m_sld (v := xs (4 * q + 1)) hx hb hC.hX hC.hbl hC.hbA hS (k := 4 * q + 1) (m_add rfl rfl) (by omega) hC.hL rfl dL_law_2056 ?_
    refine lw_m (s1 := S9) (t1 := s9) (Wn := (LCh cy a S9 S9)) hC (c_X8_quacks_no l G cy a.am a.aS a.aBf a.aAs a.aSv a.aPa a.aOu a.aTx a.aCo s9.ct s9.nb s9.LN ((s9.x0).1) s9.CM s9.hs s9.th (bI (s9.x0).2) s9.ep s9.fc s9.σ (xs (4 * q + 1)) hI.1.1 hF) (cwV 1 hC.S9.2.2.2.2 gL_law_X8_quacks rfl rfl rfl (by decide +kernel) ⟨Nat.le_of_ble_eq_true rfl, Nat.le_of_ble_eq_true rfl⟩) [15, 16] rfl (by decide) (SameR.cons (SameR.cons SameR.nil)) (by subst eS; rfl) hP hD hS rfl hl.1 rfl (Nat.le_of_ble_eq_true rfl) ⟨hc1, hs1⟩ dL_law_2057 (fun H locs hP hD hS => ?_)
    refine lv_istore (lv' := [(7, .int 0), (6, .int 1), (5, .int (nI (4 * q))), (4, .ref a.oD), (3, .ref a.oA), (2, .ref a.am), (1, .ref a.aX), (0, .ref b)]) hx hb dL_law_2060 hl (by decide) rfl (fun ls hl => ?_)
    refine lv_aload_n hx hb dL_law_2062 rfl (lv_at hl 5 rfl) ?_
    refine lw_thrown (s1 := S9) (t1 := S9) (k := 1) hC hP (by subst eS; rfl) hl.1 (Nat.le_of_ble_eq_true rfl) ⟨hc1, hs1⟩ dL_law_2063 ?_
    refine lv_iload hx hb dL_law_2066 (lv_at hl 1 rfl) ?_
    refine lv_icmp_eq (tgt := 2073) hx hb dL_law_2068 (by decide) (fun c_2068 => ?_) (fun c_2068 => ?_)
    rotate_left
    · exact absurd c_2068 (by decide)
    refine lv_iload hx hb dL_law_2073 (lv_at hl 1 rfl) ?_
    refine lv_if_ne (tgt := 2090) hx hb dL_law_2075 (by decide) (fun c_2075 => ?_) (fun c_2075 => ?_)
    rotate_left
    · exact absurd c_2075 (by decide)
    refine lv_goto (tgt := 2890) hx hb dL_law_2090 (by decide) ?_
    exact kk S9 H locs ls (LI.of (LI.mono hI (by omega)) (by subst eS; rfl) (by subst eS; rfl) (by subst eS; rfl) (by subst eS; rfl) (by subst eS; rfl) (by subst eS; rfl) (by subst eS; rfl) (by subst eS; rfl) (by subst eS; rfl) (by subst eS; rfl) (by subst eS; rfl) (by subst eS; rfl) (by subst eS; rfl) (by subst eS; rfl) (by subst eS; rfl)) hP hD hS (lv_sub hl [2, 3, 4, 5, 6, 7] rfl)

set_option maxRecDepth 100000 in
set_option maxHeartbeats 4000000 in
theorem case_33 {p : Program} {l : Launch} {e : Env} {s : State} {m : MethodId} {below : List Frame} {meth : Method} {cq : Code} {G : va_G} {cy : Nat → ClassId} {kS vS : Nat → Nat} {A : Nat → Prop} {a : LA} {b L q : Nat} {xs : Nat → Int32} {Q : State → Prop} {n0 cells slots : Nat} (hC : LC l p s m meth cq G cy kS vS A b L xs) (hq : 4 * q + 4 ≤ L) (hn0 : n0 < 1000000) (hc1 : cells + 1 ≤ room_1.cells) (hs1 : slots + 6 ≤ room_1.slots) (kk : LGo p l e s m below meth cq G cy A a b q Q (n0 + 300) (cells + 1) (slots + 6) 2890) : LGo p l e s m below meth cq G cy A a b q Q n0 cells slots 2093 := by
  intro s9 H locs ls hI hP hD hS hl
  obtain ⟨hx, hb, hml, hown, hts⟩ := id hC.S9
  have hL9 := hC.hL
  have hc0 : cells + 0 ≤ room_1.cells := Nat.le_of_succ_le hc1
  have hcn : cells ≤ room_1.cells := Nat.le_of_succ_le hc1
  have hs0 : slots + 0 ≤ room_1.slots := Nat.le_trans (Nat.le_add_right slots 6) hs1
  have hsn : slots ≤ room_1.slots := Nat.le_trans (Nat.le_add_right slots 6) hs1
  have ho := hI.1.1
  have hN0 := ho.1
  have hM0 := ho.2.1
  have hE0 := ho.2.2.1
  have hnx := hI.2.2.2.2.1
  have hct := hI.2.2.2.2.2.1
  by_cases hF : inI (xs (4 * q + 1)) (nI (nD s9.σ)) = true
  · obtain ⟨j, hj, e1⟩ := ix_of (by omega) hF
    have hF2 : inI (nI j) (nI (nD s9.σ)) = true := by rw [← e1]; exact hF
    obtain ⟨S9, eS⟩ : ∃ z : LwS, z = (LwS.mk s9.σ s9.υ s9.ς s9.hs s9.ep s9.fc s9.ml 0 s9.nx s9.ct s9.nb s9.n s9.LN s9.CM s9.ρ s9.x s9.x0 s9.f s9.gk s9.g1 s9.g2 s9.g3 s9.fb s9.fB s9.fA s9.fV s9.fP s9.fO s9.g (fun _ => (atF (fun j => rkDN (plz (vB s9.σ) (hB s9.σ) (bD s9.σ) (lD s9.σ) (uD s9.σ)) (qD s9.σ) j (nD s9.σ)) (nI j) 0 (nD s9.σ)).toInt64) s9.fd) := ⟨_, rfl⟩
    refine lv_aload_n hx hb dL_law_2093 rfl (lv_at hl 4 rfl) ?_
    refine lv_aload_n hx hb dL_law_2094 rfl (lv_at hl 5 rfl) ?_
    refine lv_iload hx hb dL_law_2095 (lv_at hl 0 rfl) ?_
    refine lv_iconst (v := 1) hx hb dL_law_2097 (by decide) ?_
    refine lv_iadd hx hb dL_law_2098 ?_
    refine m_sld (v := nI j) hx hb hC.hX hC.hbl hC.hbA hS (k := 4 * q + 1) (m_add rfl rfl) (by omega) hC.hL e1 dL_law_2099 ?_
    refine lv_aload_n hx hb dL_law_2100 rfl (lv_at hl 2 rfl) ?_
    refine lw_w (Wc := (LCh cy a s9 s9)) (Wn := (LCh cy a S9 s9)) hC (w_duckByQuacks_ok l G cy kS vS a.aX a.na a.tr a.sn s9.hs a.hi a.sc s9.ep s9.fc a.ob s9.σ j a.oA s9.fo hI.1.1 hj) (vx_cwSW 3 hC.S9.2.2.2.2 gL_law_L_duckByQuacks rfl rfl rfl (by decide +kernel) ⟨Nat.le_of_ble_eq_true rfl, Nat.le_of_ble_eq_true rfl⟩) [0, 1, 24] rfl (by decide) (SameL.cons SameA.rf (SameL.cons SameA.rf (SameL.cons SameA.one SameL.nil))) (by subst eS; rfl) hP hD hS rfl hl.1 rfl (Nat.le_of_ble_eq_true rfl) ⟨hc0, hs0⟩ dL_law_2101 (fun H locs hP hD hS => ?_)
    refine lv_istore (lv' := [(6, .int 0), (5, .int (nI (4 * q))), (4, .ref a.oD), (3, .ref a.oA), (2, .ref a.am), (1, .ref a.aX), (0, .ref b)]) hx hb dL_law_2104 hl (by decide) rfl (fun ls hl => ?_)
    refine lv_aload_n hx hb dL_law_2106 rfl (lv_at hl 4 rfl) ?_
    refine lv_aload_n hx hb dL_law_2107 rfl (lv_at hl 6 rfl) ?_
    refine lv_iload hx hb dL_law_2108 (lv_at hl 1 rfl) ?_
    refine lv_iconst (v := 1) hx hb dL_law_2110 (by decide) ?_
    refine lv_iadd hx hb dL_law_2111 ?_
    refine m_sld (v := nI j) hx hb hC.hX hC.hbl hC.hbA hS (k := 4 * q + 1) (m_add rfl rfl) (by omega) hC.hL e1 dL_law_2112 ?_
    refine lw_m (s1 := S9) (t1 := s9) (Wn := (LCh cy a S9 S9)) hC (c_X8_duckByQuacks_ok l G cy a.am a.aS a.aBf a.aAs a.aSv a.aPa a.aOu a.aTx a.aCo s9.ct s9.nb s9.LN ((s9.x0).1) s9.CM s9.hs s9.th (bI (s9.x0).2) s9.ep s9.fc s9.σ (nI j) hI.1.1 hF2 (fun j hj => ⟨(hI.1.2.2.2.1 j hj).1, by have := (hI.1.2.2.2.1 j hj).2.1; omega⟩)) (cwV 1 hC.S9.2.2.2.2 gL_law_X8_duckByQuacks rfl rfl rfl (by decide +kernel) ⟨Nat.le_of_ble_eq_true rfl, Nat.le_of_ble_eq_true rfl⟩) [15, 16] rfl (by decide) (SameR.cons (SameR.cons SameR.nil)) (by subst eS; rfl) hP hD hS rfl hl.1 rfl (Nat.le_of_ble_eq_true rfl) ⟨hcn, hsn⟩ dL_law_2113 (fun H locs hP hD hS => ?_)
    refine lv_istore (lv' := [(7, .int (lasF (fun b9 => rkDN (plz (vB s9.σ) (hB s9.σ) (bD s9.σ) (lD s9.σ) (uD s9.σ)) (qD s9.σ) b9 (nD s9.σ)) (nI j) (nD s9.σ))), (6, .int 0), (5, .int (nI (4 * q))), (4, .ref a.oD), (3, .ref a.oA), (2, .ref a.am), (1, .ref a.aX), (0, .ref b)]) hx hb dL_law_2116 hl (by decide) rfl (fun ls hl => ?_)
    refine lv_aload_n hx hb dL_law_2118 rfl (lv_at hl 5 rfl) ?_
    refine lw_thrown (s1 := S9) (t1 := S9) (k := 0) hC hP (by subst eS; rfl) hl.1 (Nat.le_of_ble_eq_true rfl) ⟨hcn, hsn⟩ dL_law_2119 ?_
    refine lv_iload hx hb dL_law_2122 (lv_at hl 1 rfl) ?_
    refine lv_icmp_eq (tgt := 2129) hx hb dL_law_2124 (by decide) (fun c_2124 => ?_) (fun c_2124 => ?_)
    rotate_left
    · exact absurd c_2124 (by decide)
    refine lv_iload hx hb dL_law_2129 (lv_at hl 1 rfl) ?_
    refine lv_if_ne (tgt := 2146) hx hb dL_law_2131 (by decide) (fun c_2131 => ?_) (fun c_2131 => ?_)
    · exact absurd c_2131 (by decide)
    refine lv_aload_n hx hb dL_law_2134 rfl (lv_at hl 4 rfl) ?_
    refine lv_iconst (v := 0) hx hb dL_law_2135 (by decide) ?_
    refine lw_ldL (s1 := S9) (t1 := S9) (x := (atF (fun j => rkDN (plz (vB s9.σ) (hB s9.σ) (bD s9.σ) (lD s9.σ) (uD s9.σ)) (qD s9.σ) j (nD s9.σ)) (nI j) 0 (nD s9.σ)).toInt64) hC hP (by subst eS; rfl) dL_law_2136 ?_
    refine lv_iload hx hb dL_law_2137 (lv_at hl 0 rfl) ?_
    refine lv_i2l hx hb dL_law_2139 rfl ?_
    refine m_lcmp0 hx hb (congrArg Int32.toInt64 (duck_rank hM0 hj)) dL_law_2140 ?_
    refine lv_if_eq (tgt := 2146) hx hb dL_law_2141 (by decide) (fun c_2141 => ?_) (fun c_2141 => ?_)
    rotate_left
    · exact absurd c_2141 (by decide)
    refine lv_goto (tgt := 2890) hx hb dL_law_2146 (by decide) ?_
    refine W.widen (k := cells + 1) (n := slots + 6) (by omega) (by omega) ?_
    exact kk S9 H locs ls (LI.of (LI.mono hI (by omega)) (by subst eS; rfl) (by subst eS; rfl) (by subst eS; rfl) (by subst eS; rfl) (by subst eS; rfl) (by subst eS; rfl) (by subst eS; rfl) (by subst eS; rfl) (by subst eS; rfl) (by subst eS; rfl) (by subst eS; rfl) (by subst eS; rfl) (by subst eS; rfl) (by subst eS; rfl) (by subst eS; rfl)) hP hD hS (lv_sub hl [2, 3, 4, 5, 6, 7] rfl)
  · obtain ⟨S9, eS⟩ : ∃ z : LwS, z = (LwS.mk s9.σ s9.υ s9.ς s9.hs s9.ep s9.fc s9.ml 1 s9.nx s9.ct s9.nb s9.n s9.LN s9.CM s9.ρ s9.x s9.x0 s9.f s9.gk s9.g1 s9.g2 s9.g3 s9.fb s9.fB s9.fA s9.fV s9.fP s9.fO s9.g s9.fo s9.fd) := ⟨_, rfl⟩
    refine lv_aload_n hx hb dL_law_2093 rfl (lv_at hl 4 rfl) ?_
    refine lv_aload_n hx hb dL_law_2094 rfl (lv_at hl 5 rfl) ?_
    refine lv_iload hx hb dL_law_2095 (lv_at hl 0 rfl) ?_
    refine lv_iconst (v := 1) hx hb dL_law_2097 (by decide) ?_
    refine lv_iadd hx hb dL_law_2098 ?_
    refine m_sld (v := xs (4 * q + 1)) hx hb hC.hX hC.hbl hC.hbA hS (k := 4 * q + 1) (m_add rfl rfl) (by omega) hC.hL rfl dL_law_2099 ?_
    refine lv_aload_n hx hb dL_law_2100 rfl (lv_at hl 2 rfl) ?_
    refine lw_w (Wc := (LCh cy a s9 s9)) (Wn := (LCh cy a S9 s9)) hC (w_duckByQuacks_t l G cy kS vS a.aX a.na a.tr a.sn s9.hs a.hi a.sc s9.ep s9.fc a.ob s9.σ (xs (4 * q + 1)) a.oA s9.fo hC.hl9 hI.1.1 hF) (vx_cwSW 3 hC.S9.2.2.2.2 gL_law_L_duckByQuacks rfl rfl rfl (by decide +kernel) ⟨Nat.le_of_ble_eq_true rfl, Nat.le_of_ble_eq_true rfl⟩) [0, 1, 24] rfl (by decide) (SameL.cons SameA.rf (SameL.cons SameA.rf (SameL.cons SameA.rf SameL.nil))) (by subst eS; rfl) hP hD hS rfl hl.1 rfl (Nat.le_of_ble_eq_true rfl) ⟨hc1, hs1⟩ dL_law_2101 (fun H locs hP hD hS => ?_)
    refine lv_istore (lv' := [(6, .int 1), (5, .int (nI (4 * q))), (4, .ref a.oD), (3, .ref a.oA), (2, .ref a.am), (1, .ref a.aX), (0, .ref b)]) hx hb dL_law_2104 hl (by decide) rfl (fun ls hl => ?_)
    refine lv_aload_n hx hb dL_law_2106 rfl (lv_at hl 4 rfl) ?_
    refine lv_aload_n hx hb dL_law_2107 rfl (lv_at hl 6 rfl) ?_
    refine lv_iload hx hb dL_law_2108 (lv_at hl 1 rfl) ?_
    refine lv_iconst (v := 1) hx hb dL_law_2110 (by decide) ?_
    refine lv_iadd hx hb dL_law_2111 ?_
    refine m_sld (v := xs (4 * q + 1)) hx hb hC.hX hC.hbl hC.hbA hS (k := 4 * q + 1) (m_add rfl rfl) (by omega) hC.hL rfl dL_law_2112 ?_
    refine lw_m (s1 := S9) (t1 := s9) (Wn := (LCh cy a S9 S9)) hC (c_X8_duckByQuacks_no l G cy a.am a.aS a.aBf a.aAs a.aSv a.aPa a.aOu a.aTx a.aCo s9.ct s9.nb s9.LN ((s9.x0).1) s9.CM s9.hs s9.th (bI (s9.x0).2) s9.ep s9.fc s9.σ (xs (4 * q + 1)) hI.1.1 hF) (cwV 1 hC.S9.2.2.2.2 gL_law_X8_duckByQuacks rfl rfl rfl (by decide +kernel) ⟨Nat.le_of_ble_eq_true rfl, Nat.le_of_ble_eq_true rfl⟩) [15, 16] rfl (by decide) (SameR.cons (SameR.cons SameR.nil)) (by subst eS; rfl) hP hD hS rfl hl.1 rfl (Nat.le_of_ble_eq_true rfl) ⟨hc1, hs1⟩ dL_law_2113 (fun H locs hP hD hS => ?_)
    refine lv_istore (lv' := [(7, .int 0), (6, .int 1), (5, .int (nI (4 * q))), (4, .ref a.oD), (3, .ref a.oA), (2, .ref a.am), (1, .ref a.aX), (0, .ref b)]) hx hb dL_law_2116 hl (by decide) rfl (fun ls hl => ?_)
    refine lv_aload_n hx hb dL_law_2118 rfl (lv_at hl 5 rfl) ?_
    refine lw_thrown (s1 := S9) (t1 := S9) (k := 1) hC hP (by subst eS; rfl) hl.1 (Nat.le_of_ble_eq_true rfl) ⟨hc1, hs1⟩ dL_law_2119 ?_
    refine lv_iload hx hb dL_law_2122 (lv_at hl 1 rfl) ?_
    refine lv_icmp_eq (tgt := 2129) hx hb dL_law_2124 (by decide) (fun c_2124 => ?_) (fun c_2124 => ?_)
    rotate_left
    · exact absurd c_2124 (by decide)
    refine lv_iload hx hb dL_law_2129 (lv_at hl 1 rfl) ?_
    refine lv_if_ne (tgt := 2146) hx hb dL_law_2131 (by decide) (fun c_2131 => ?_) (fun c_2131 => ?_)
    rotate_left
    · exact absurd c_2131 (by decide)
    refine lv_goto (tgt := 2890) hx hb dL_law_2146 (by decide) ?_
    exact kk S9 H locs ls (LI.of (LI.mono hI (by omega)) (by subst eS; rfl) (by subst eS; rfl) (by subst eS; rfl) (by subst eS; rfl) (by subst eS; rfl) (by subst eS; rfl) (by subst eS; rfl) (by subst eS; rfl) (by subst eS; rfl) (by subst eS; rfl) (by subst eS; rfl) (by subst eS; rfl) (by subst eS; rfl) (by subst eS; rfl) (by subst eS; rfl)) hP hD hS (lv_sub hl [2, 3, 4, 5, 6, 7] rfl)

set_option maxRecDepth 100000 in
set_option maxHeartbeats 4000000 in
theorem case_34 {p : Program} {l : Launch} {e : Env} {s : State} {m : MethodId} {below : List Frame} {meth : Method} {cq : Code} {G : va_G} {cy : Nat → ClassId} {kS vS : Nat → Nat} {A : Nat → Prop} {a : LA} {b L q : Nat} {xs : Nat → Int32} {Q : State → Prop} {n0 cells slots : Nat} (hC : LC l p s m meth cq G cy kS vS A b L xs) (hq : 4 * q + 4 ≤ L) (hn0 : n0 < 1000000) (hc1 : cells + 1 ≤ room_1.cells) (hs1 : slots + 6 ≤ room_1.slots) (kk : LGo p l e s m below meth cq G cy A a b q Q (n0 + 300) (cells + 1) (slots + 6) 2890) : LGo p l e s m below meth cq G cy A a b q Q n0 cells slots 2149 := by
  intro s9 H locs ls hI hP hD hS hl
  obtain ⟨hx, hb, hml, hown, hts⟩ := id hC.S9
  have hL9 := hC.hL
  have hc0 : cells + 0 ≤ room_1.cells := Nat.le_of_succ_le hc1
  have hcn : cells ≤ room_1.cells := Nat.le_of_succ_le hc1
  have hs0 : slots + 0 ≤ room_1.slots := Nat.le_trans (Nat.le_add_right slots 6) hs1
  have hsn : slots ≤ room_1.slots := Nat.le_trans (Nat.le_add_right slots 6) hs1
  have ho := hI.1.1
  have hN0 := ho.1
  have hM0 := ho.2.1
  have hE0 := ho.2.2.1
  have hnx := hI.2.2.2.2.1
  have hct := hI.2.2.2.2.2.1
  obtain ⟨S9, eS⟩ : ∃ z : LwS, z = (LwS.mk s9.σ s9.υ s9.ς s9.hs s9.ep s9.fc s9.ml 0 s9.nx s9.ct s9.nb s9.n s9.LN s9.CM s9.ρ s9.x s9.x0 s9.f s9.gk s9.g1 s9.g2 s9.g3 s9.fb s9.fB s9.fA s9.fV s9.fP s9.fO s9.g s9.fo s9.fd) := ⟨_, rfl⟩
  refine lv_aload_n hx hb dL_law_2149 rfl (lv_at hl 4 rfl) ?_
  refine c_roVi hC.S9 (c_X7_eventCount l G cy a.aX a.na a.tr a.sn s9.hs a.hi a.sc s9.ep s9.fc a.ob s9.σ hI.1.1) (cwV 0 hC.S9.2.2.2.2 gL_law_X7_eventCount rfl rfl rfl (by decide +kernel) ⟨Nat.le_of_ble_eq_true rfl, Nat.le_of_ble_eq_true rfl⟩) PB.blind (va_recv hC.hK.1 hP (ci := 11) (q0 := offs (LCh cy a s9 s9) 0 + 0) rfl ((fl_at (Wc := (LCh cy a s9 s9)) (j := 0) (i := 0) (c := [(a.aX, .inr (11, [.ref (a.na 0), .ref (a.tr 0), .ref (a.sn 0), .int s9.hs, .ref a.hi, .ref a.sc, .int s9.ep, .int s9.fc, .ref a.ob]))]) rfl (Nat.le_of_ble_eq_true rfl)).trans rfl)) (PB.at hC.hK (PpartC (Wc := (LCh cy a s9 s9)) (cs := [[(a.aX, .inr (11, [.ref (a.na 0), .ref (a.tr 0), .ref (a.sn 0), .int s9.hs, .ref a.hi, .ref a.sc, .int s9.ep, .int s9.fc, .ref a.ob]))], sWd cy a.na s9.σ]) hP [0, 1] rfl)) rfl hl.1 rfl (Nat.le_of_ble_eq_true rfl) ⟨hcn, hsn⟩ dL_law_2150 ?_
  refine lv_aload_n hx hb dL_law_2153 rfl (lv_at hl 3 rfl) ?_
  refine lw_m (s1 := s9) (t1 := s9) (Wn := (LCh cy a s9 S9)) hC (c_X8_eventCount l G cy a.am a.aS a.aBf a.aAs a.aSv a.aPa a.aOu a.aTx a.aCo s9.ct s9.nb s9.LN ((s9.x0).1) s9.CM s9.hs s9.th (bI (s9.x0).2) s9.ep s9.fc s9.σ hI.1.1) (cwV 0 hC.S9.2.2.2.2 gL_law_X8_eventCount rfl rfl rfl (by decide +kernel) ⟨Nat.le_of_ble_eq_true rfl, Nat.le_of_ble_eq_true rfl⟩) [15, 16] rfl (by decide) (SameR.cons (SameR.cons SameR.nil)) (by subst eS; rfl) hP hD hS rfl hl.1 rfl (Nat.le_of_ble_eq_true rfl) ⟨hcn, hsn⟩ dL_law_2154 (fun H locs hP hD hS => ?_)
  refine lv_icmp_eq (tgt := 2890) hx hb dL_law_2157 (by decide) (fun c_2157 => ?_) (fun c_2157 => ?_)
  rotate_left
  · exact absurd rfl c_2157
  have hP : va_P G vwCl (fl (LCh cy a S9 S9)) H := by rw [LCh.left (s := s9) (by subst eS; rfl) (by subst eS; rfl) (by subst eS; rfl) (by subst eS; rfl) (by subst eS; rfl) (by subst eS; rfl) (by subst eS; rfl) (by subst eS; rfl) (by subst eS; rfl) (by subst eS; rfl) (by subst eS; rfl) (by subst eS; rfl) (by subst eS; rfl) (by subst eS; rfl) (by subst eS; rfl) (by subst eS; rfl) (by subst eS; rfl) (by subst eS; rfl) (by subst eS; rfl) (by subst eS; rfl) (by subst eS; rfl) (by subst eS; rfl)]; exact hP
  have hD : va_D A (fl (LCh cy a S9 S9)) := by rw [LCh.left (s := s9) (by subst eS; rfl) (by subst eS; rfl) (by subst eS; rfl) (by subst eS; rfl) (by subst eS; rfl) (by subst eS; rfl) (by subst eS; rfl) (by subst eS; rfl) (by subst eS; rfl) (by subst eS; rfl) (by subst eS; rfl) (by subst eS; rfl) (by subst eS; rfl) (by subst eS; rfl) (by subst eS; rfl) (by subst eS; rfl) (by subst eS; rfl) (by subst eS; rfl) (by subst eS; rfl) (by subst eS; rfl) (by subst eS; rfl) (by subst eS; rfl)]; exact hD
  refine W.widen (k := cells + 1) (n := slots + 6) (by omega) (by omega) ?_
  exact kk S9 H locs ls (LI.of (LI.mono hI (by omega)) (by subst eS; rfl) (by subst eS; rfl) (by subst eS; rfl) (by subst eS; rfl) (by subst eS; rfl) (by subst eS; rfl) (by subst eS; rfl) (by subst eS; rfl) (by subst eS; rfl) (by subst eS; rfl) (by subst eS; rfl) (by subst eS; rfl) (by subst eS; rfl) (by subst eS; rfl) (by subst eS; rfl)) hP hD hS (lv_sub hl [0, 1, 2, 3, 4, 5] rfl)

set_option maxRecDepth 100000 in
set_option maxHeartbeats 4000000 in
theorem case_35 {p : Program} {l : Launch} {e : Env} {s : State} {m : MethodId} {below : List Frame} {meth : Method} {cq : Code} {G : va_G} {cy : Nat → ClassId} {kS vS : Nat → Nat} {A : Nat → Prop} {a : LA} {b L q : Nat} {xs : Nat → Int32} {Q : State → Prop} {n0 cells slots : Nat} (hC : LC l p s m meth cq G cy kS vS A b L xs) (hq : 4 * q + 4 ≤ L) (hn0 : n0 < 1000000) (hc1 : cells + 1 ≤ room_1.cells) (hs1 : slots + 6 ≤ room_1.slots) (kk : LGo p l e s m below meth cq G cy A a b q Q (n0 + 300) (cells + 1) (slots + 6) 2890) : LGo p l e s m below meth cq G cy A a b q Q n0 cells slots 2162 := by
  intro s9 H locs ls hI hP hD hS hl
  obtain ⟨hx, hb, hml, hown, hts⟩ := id hC.S9
  have hL9 := hC.hL
  have hc0 : cells + 0 ≤ room_1.cells := Nat.le_of_succ_le hc1
  have hcn : cells ≤ room_1.cells := Nat.le_of_succ_le hc1
  have hs0 : slots + 0 ≤ room_1.slots := Nat.le_trans (Nat.le_add_right slots 6) hs1
  have hsn : slots ≤ room_1.slots := Nat.le_trans (Nat.le_add_right slots 6) hs1
  have ho := hI.1.1
  have hN0 := ho.1
  have hM0 := ho.2.1
  have hE0 := ho.2.2.1
  have hnx := hI.2.2.2.2.1
  have hct := hI.2.2.2.2.2.1
  by_cases hF : inI (xs (4 * q + 1)) (nI (nE s9.σ)) = true
  · obtain ⟨j, hj, e1⟩ := ix_of (by omega) hF
    obtain ⟨S9, eS⟩ : ∃ z : LwS, z = (LwS.mk s9.σ s9.υ s9.ς s9.hs s9.ep s9.fc s9.ml 0 s9.nx s9.ct s9.nb s9.n s9.LN s9.CM s9.ρ s9.x s9.x0 s9.f s9.gk s9.g1 s9.g2 s9.g3 s9.fb s9.fB s9.fA s9.fV s9.fP s9.fO s9.g (fun _ => (kE s9.σ j).toInt64) s9.fd) := ⟨_, rfl⟩
    refine lv_aload_n hx hb dL_law_2162 rfl (lv_at hl 4 rfl) ?_
    refine lv_aload_n hx hb dL_law_2163 rfl (lv_at hl 5 rfl) ?_
    refine lv_iload hx hb dL_law_2164 (lv_at hl 0 rfl) ?_
    refine lv_iconst (v := 1) hx hb dL_law_2166 (by decide) ?_
    refine lv_iadd hx hb dL_law_2167 ?_
    refine m_sld (v := nI j) hx hb hC.hX hC.hbl hC.hbA hS (k := 4 * q + 1) (m_add rfl rfl) (by omega) hC.hL e1 dL_law_2168 ?_
    refine lv_aload_n hx hb dL_law_2169 rfl (lv_at hl 2 rfl) ?_
    refine lw_w (Wc := (LCh cy a s9 s9)) (Wn := (LCh cy a S9 s9)) hC (w_eventKind_ok l G cy kS vS a.aX a.na a.tr a.sn s9.hs a.hi a.sc s9.ep s9.fc a.ob s9.σ j a.oA s9.fo hI.1.1 hj) (vx_cwSW 3 hC.S9.2.2.2.2 gL_law_L_eventKind rfl rfl rfl (by decide +kernel) ⟨Nat.le_of_ble_eq_true rfl, Nat.le_of_ble_eq_true rfl⟩) [0, 1, 24] rfl (by decide) (SameL.cons SameA.rf (SameL.cons SameA.rf (SameL.cons SameA.one SameL.nil))) (by subst eS; rfl) hP hD hS rfl hl.1 rfl (Nat.le_of_ble_eq_true rfl) ⟨hc0, hs0⟩ dL_law_2170 (fun H locs hP hD hS => ?_)
    refine lv_istore (lv' := [(6, .int 0), (5, .int (nI (4 * q))), (4, .ref a.oD), (3, .ref a.oA), (2, .ref a.am), (1, .ref a.aX), (0, .ref b)]) hx hb dL_law_2173 hl (by decide) rfl (fun ls hl => ?_)
    refine lv_aload_n hx hb dL_law_2175 rfl (lv_at hl 4 rfl) ?_
    refine lv_aload_n hx hb dL_law_2176 rfl (lv_at hl 6 rfl) ?_
    refine lv_iload hx hb dL_law_2177 (lv_at hl 1 rfl) ?_
    refine lv_iconst (v := 1) hx hb dL_law_2179 (by decide) ?_
    refine lv_iadd hx hb dL_law_2180 ?_
    refine m_sld (v := nI j) hx hb hC.hX hC.hbl hC.hbA hS (k := 4 * q + 1) (m_add rfl rfl) (by omega) hC.hL e1 dL_law_2181 ?_
    refine lw_m (s1 := S9) (t1 := s9) (Wn := (LCh cy a S9 S9)) hC (c_X8_eventKind_ok l G cy a.am a.aS a.aBf a.aAs a.aSv a.aPa a.aOu a.aTx a.aCo s9.ct s9.nb s9.LN ((s9.x0).1) s9.CM s9.hs s9.th (bI (s9.x0).2) s9.ep s9.fc s9.σ j hI.1.1 hj) (cwV 1 hC.S9.2.2.2.2 gL_law_X8_eventKind rfl rfl rfl (by decide +kernel) ⟨Nat.le_of_ble_eq_true rfl, Nat.le_of_ble_eq_true rfl⟩) [15, 16] rfl (by decide) (SameR.cons (SameR.cons SameR.nil)) (by subst eS; rfl) hP hD hS rfl hl.1 rfl (Nat.le_of_ble_eq_true rfl) ⟨hcn, hsn⟩ dL_law_2182 (fun H locs hP hD hS => ?_)
    refine lv_istore (lv' := [(7, .int (kE s9.σ j)), (6, .int 0), (5, .int (nI (4 * q))), (4, .ref a.oD), (3, .ref a.oA), (2, .ref a.am), (1, .ref a.aX), (0, .ref b)]) hx hb dL_law_2185 hl (by decide) rfl (fun ls hl => ?_)
    refine lv_aload_n hx hb dL_law_2187 rfl (lv_at hl 5 rfl) ?_
    refine lw_thrown (s1 := S9) (t1 := S9) (k := 0) hC hP (by subst eS; rfl) hl.1 (Nat.le_of_ble_eq_true rfl) ⟨hcn, hsn⟩ dL_law_2188 ?_
    refine lv_iload hx hb dL_law_2191 (lv_at hl 1 rfl) ?_
    refine lv_icmp_eq (tgt := 2198) hx hb dL_law_2193 (by decide) (fun c_2193 => ?_) (fun c_2193 => ?_)
    rotate_left
    · exact absurd c_2193 (by decide)
    refine lv_iload hx hb dL_law_2198 (lv_at hl 1 rfl) ?_
    refine lv_if_ne (tgt := 2215) hx hb dL_law_2200 (by decide) (fun c_2200 => ?_) (fun c_2200 => ?_)
    · exact absurd c_2200 (by decide)
    refine lv_aload_n hx hb dL_law_2203 rfl (lv_at hl 4 rfl) ?_
    refine lv_iconst (v := 0) hx hb dL_law_2204 (by decide) ?_
    refine lw_ldL (s1 := S9) (t1 := S9) (x := (kE s9.σ j).toInt64) hC hP (by subst eS; rfl) dL_law_2205 ?_
    refine lv_iload hx hb dL_law_2206 (lv_at hl 0 rfl) ?_
    refine lv_i2l hx hb dL_law_2208 rfl ?_
    refine m_lcmp0 hx hb rfl dL_law_2209 ?_
    refine lv_if_eq (tgt := 2215) hx hb dL_law_2210 (by decide) (fun c_2210 => ?_) (fun c_2210 => ?_)
    rotate_left
    · exact absurd c_2210 (by decide)
    refine lv_goto (tgt := 2890) hx hb dL_law_2215 (by decide) ?_
    refine W.widen (k := cells + 1) (n := slots + 6) (by omega) (by omega) ?_
    exact kk S9 H locs ls (LI.of (LI.mono hI (by omega)) (by subst eS; rfl) (by subst eS; rfl) (by subst eS; rfl) (by subst eS; rfl) (by subst eS; rfl) (by subst eS; rfl) (by subst eS; rfl) (by subst eS; rfl) (by subst eS; rfl) (by subst eS; rfl) (by subst eS; rfl) (by subst eS; rfl) (by subst eS; rfl) (by subst eS; rfl) (by subst eS; rfl)) hP hD hS (lv_sub hl [2, 3, 4, 5, 6, 7] rfl)
  · obtain ⟨S9, eS⟩ : ∃ z : LwS, z = (LwS.mk s9.σ s9.υ s9.ς s9.hs s9.ep s9.fc s9.ml 1 s9.nx s9.ct s9.nb s9.n s9.LN s9.CM s9.ρ s9.x s9.x0 s9.f s9.gk s9.g1 s9.g2 s9.g3 s9.fb s9.fB s9.fA s9.fV s9.fP s9.fO s9.g s9.fo s9.fd) := ⟨_, rfl⟩
    refine lv_aload_n hx hb dL_law_2162 rfl (lv_at hl 4 rfl) ?_
    refine lv_aload_n hx hb dL_law_2163 rfl (lv_at hl 5 rfl) ?_
    refine lv_iload hx hb dL_law_2164 (lv_at hl 0 rfl) ?_
    refine lv_iconst (v := 1) hx hb dL_law_2166 (by decide) ?_
    refine lv_iadd hx hb dL_law_2167 ?_
    refine m_sld (v := xs (4 * q + 1)) hx hb hC.hX hC.hbl hC.hbA hS (k := 4 * q + 1) (m_add rfl rfl) (by omega) hC.hL rfl dL_law_2168 ?_
    refine lv_aload_n hx hb dL_law_2169 rfl (lv_at hl 2 rfl) ?_
    refine lw_w (Wc := (LCh cy a s9 s9)) (Wn := (LCh cy a S9 s9)) hC (w_eventKind_t l G cy kS vS a.aX a.na a.tr a.sn s9.hs a.hi a.sc s9.ep s9.fc a.ob s9.σ (xs (4 * q + 1)) a.oA s9.fo hC.hl9 hI.1.1 hF) (vx_cwSW 3 hC.S9.2.2.2.2 gL_law_L_eventKind rfl rfl rfl (by decide +kernel) ⟨Nat.le_of_ble_eq_true rfl, Nat.le_of_ble_eq_true rfl⟩) [0, 1, 24] rfl (by decide) (SameL.cons SameA.rf (SameL.cons SameA.rf (SameL.cons SameA.rf SameL.nil))) (by subst eS; rfl) hP hD hS rfl hl.1 rfl (Nat.le_of_ble_eq_true rfl) ⟨hc1, hs1⟩ dL_law_2170 (fun H locs hP hD hS => ?_)
    refine lv_istore (lv' := [(6, .int 1), (5, .int (nI (4 * q))), (4, .ref a.oD), (3, .ref a.oA), (2, .ref a.am), (1, .ref a.aX), (0, .ref b)]) hx hb dL_law_2173 hl (by decide) rfl (fun ls hl => ?_)
    refine lv_aload_n hx hb dL_law_2175 rfl (lv_at hl 4 rfl) ?_
    refine lv_aload_n hx hb dL_law_2176 rfl (lv_at hl 6 rfl) ?_
    refine lv_iload hx hb dL_law_2177 (lv_at hl 1 rfl) ?_
    refine lv_iconst (v := 1) hx hb dL_law_2179 (by decide) ?_
    refine lv_iadd hx hb dL_law_2180 ?_
    refine m_sld (v := xs (4 * q + 1)) hx hb hC.hX hC.hbl hC.hbA hS (k := 4 * q + 1) (m_add rfl rfl) (by omega) hC.hL rfl dL_law_2181 ?_
    refine lw_m (s1 := S9) (t1 := s9) (Wn := (LCh cy a S9 S9)) hC (c_X8_eventKind_no l G cy a.am a.aS a.aBf a.aAs a.aSv a.aPa a.aOu a.aTx a.aCo s9.ct s9.nb s9.LN ((s9.x0).1) s9.CM s9.hs s9.th (bI (s9.x0).2) s9.ep s9.fc s9.σ (xs (4 * q + 1)) hI.1.1 hF) (cwV 1 hC.S9.2.2.2.2 gL_law_X8_eventKind rfl rfl rfl (by decide +kernel) ⟨Nat.le_of_ble_eq_true rfl, Nat.le_of_ble_eq_true rfl⟩) [15, 16] rfl (by decide) (SameR.cons (SameR.cons SameR.nil)) (by subst eS; rfl) hP hD hS rfl hl.1 rfl (Nat.le_of_ble_eq_true rfl) ⟨hc1, hs1⟩ dL_law_2182 (fun H locs hP hD hS => ?_)
    refine lv_istore (lv' := [(7, .int 32), (6, .int 1), (5, .int (nI (4 * q))), (4, .ref a.oD), (3, .ref a.oA), (2, .ref a.am), (1, .ref a.aX), (0, .ref b)]) hx hb dL_law_2185 hl (by decide) rfl (fun ls hl => ?_)
    refine lv_aload_n hx hb dL_law_2187 rfl (lv_at hl 5 rfl) ?_
    refine lw_thrown (s1 := S9) (t1 := S9) (k := 1) hC hP (by subst eS; rfl) hl.1 (Nat.le_of_ble_eq_true rfl) ⟨hc1, hs1⟩ dL_law_2188 ?_
    refine lv_iload hx hb dL_law_2191 (lv_at hl 1 rfl) ?_
    refine lv_icmp_eq (tgt := 2198) hx hb dL_law_2193 (by decide) (fun c_2193 => ?_) (fun c_2193 => ?_)
    rotate_left
    · exact absurd c_2193 (by decide)
    refine lv_iload hx hb dL_law_2198 (lv_at hl 1 rfl) ?_
    refine lv_if_ne (tgt := 2215) hx hb dL_law_2200 (by decide) (fun c_2200 => ?_) (fun c_2200 => ?_)
    rotate_left
    · exact absurd c_2200 (by decide)
    refine lv_goto (tgt := 2890) hx hb dL_law_2215 (by decide) ?_
    exact kk S9 H locs ls (LI.of (LI.mono hI (by omega)) (by subst eS; rfl) (by subst eS; rfl) (by subst eS; rfl) (by subst eS; rfl) (by subst eS; rfl) (by subst eS; rfl) (by subst eS; rfl) (by subst eS; rfl) (by subst eS; rfl) (by subst eS; rfl) (by subst eS; rfl) (by subst eS; rfl) (by subst eS; rfl) (by subst eS; rfl) (by subst eS; rfl)) hP hD hS (lv_sub hl [2, 3, 4, 5, 6, 7] rfl)

set_option maxRecDepth 100000 in
set_option maxHeartbeats 4000000 in
theorem case_36 {p : Program} {l : Launch} {e : Env} {s : State} {m : MethodId} {below : List Frame} {meth : Method} {cq : Code} {G : va_G} {cy : Nat → ClassId} {kS vS : Nat → Nat} {A : Nat → Prop} {a : LA} {b L q : Nat} {xs : Nat → Int32} {Q : State → Prop} {n0 cells slots : Nat} (hC : LC l p s m meth cq G cy kS vS A b L xs) (hq : 4 * q + 4 ≤ L) (hn0 : n0 < 1000000) (hc1 : cells + 1 ≤ room_1.cells) (hs1 : slots + 6 ≤ room_1.slots) (kk : LGo p l e s m below meth cq G cy A a b q Q (n0 + 300) (cells + 1) (slots + 6) 2890) : LGo p l e s m below meth cq G cy A a b q Q n0 cells slots 2218 := by
  intro s9 H locs ls hI hP hD hS hl
  obtain ⟨hx, hb, hml, hown, hts⟩ := id hC.S9
  have hL9 := hC.hL
  have hc0 : cells + 0 ≤ room_1.cells := Nat.le_of_succ_le hc1
  have hcn : cells ≤ room_1.cells := Nat.le_of_succ_le hc1
  have hs0 : slots + 0 ≤ room_1.slots := Nat.le_trans (Nat.le_add_right slots 6) hs1
  have hsn : slots ≤ room_1.slots := Nat.le_trans (Nat.le_add_right slots 6) hs1
  have ho := hI.1.1
  have hN0 := ho.1
  have hM0 := ho.2.1
  have hE0 := ho.2.2.1
  have hnx := hI.2.2.2.2.1
  have hct := hI.2.2.2.2.2.1
  by_cases hF : inI (xs (4 * q + 1)) (nI (nE s9.σ)) = true
  · obtain ⟨j, hj, e1⟩ := ix_of (by omega) hF
    obtain ⟨S9, eS⟩ : ∃ z : LwS, z = (LwS.mk s9.σ s9.υ s9.ς s9.hs s9.ep s9.fc s9.ml 0 s9.nx s9.ct s9.nb s9.n s9.LN s9.CM s9.ρ s9.x s9.x0 s9.f s9.gk s9.g1 s9.g2 s9.g3 s9.fb s9.fB s9.fA s9.fV s9.fP s9.fO s9.g (fun _ => (bE s9.σ j).toInt64) s9.fd) := ⟨_, rfl⟩
    refine lv_aload_n hx hb dL_law_2218 rfl (lv_at hl 4 rfl) ?_
    refine lv_aload_n hx hb dL_law_2219 rfl (lv_at hl 5 rfl) ?_
    refine lv_iload hx hb dL_law_2220 (lv_at hl 0 rfl) ?_
    refine lv_iconst (v := 1) hx hb dL_law_2222 (by decide) ?_
    refine lv_iadd hx hb dL_law_2223 ?_
    refine m_sld (v := nI j) hx hb hC.hX hC.hbl hC.hbA hS (k := 4 * q + 1) (m_add rfl rfl) (by omega) hC.hL e1 dL_law_2224 ?_
    refine lv_aload_n hx hb dL_law_2225 rfl (lv_at hl 2 rfl) ?_
    refine lw_w (Wc := (LCh cy a s9 s9)) (Wn := (LCh cy a S9 s9)) hC (w_eventBath_ok l G cy kS vS a.aX a.na a.tr a.sn s9.hs a.hi a.sc s9.ep s9.fc a.ob s9.σ j a.oA s9.fo hI.1.1 hj) (vx_cwSW 3 hC.S9.2.2.2.2 gL_law_L_eventBath rfl rfl rfl (by decide +kernel) ⟨Nat.le_of_ble_eq_true rfl, Nat.le_of_ble_eq_true rfl⟩) [0, 1, 24] rfl (by decide) (SameL.cons SameA.rf (SameL.cons SameA.rf (SameL.cons SameA.one SameL.nil))) (by subst eS; rfl) hP hD hS rfl hl.1 rfl (Nat.le_of_ble_eq_true rfl) ⟨hc0, hs0⟩ dL_law_2226 (fun H locs hP hD hS => ?_)
    refine lv_istore (lv' := [(6, .int 0), (5, .int (nI (4 * q))), (4, .ref a.oD), (3, .ref a.oA), (2, .ref a.am), (1, .ref a.aX), (0, .ref b)]) hx hb dL_law_2229 hl (by decide) rfl (fun ls hl => ?_)
    refine lv_aload_n hx hb dL_law_2231 rfl (lv_at hl 4 rfl) ?_
    refine lv_aload_n hx hb dL_law_2232 rfl (lv_at hl 6 rfl) ?_
    refine lv_iload hx hb dL_law_2233 (lv_at hl 1 rfl) ?_
    refine lv_iconst (v := 1) hx hb dL_law_2235 (by decide) ?_
    refine lv_iadd hx hb dL_law_2236 ?_
    refine m_sld (v := nI j) hx hb hC.hX hC.hbl hC.hbA hS (k := 4 * q + 1) (m_add rfl rfl) (by omega) hC.hL e1 dL_law_2237 ?_
    refine lw_m (s1 := S9) (t1 := s9) (Wn := (LCh cy a S9 S9)) hC (c_X8_eventBath_ok l G cy a.am a.aS a.aBf a.aAs a.aSv a.aPa a.aOu a.aTx a.aCo s9.ct s9.nb s9.LN ((s9.x0).1) s9.CM s9.hs s9.th (bI (s9.x0).2) s9.ep s9.fc s9.σ j hI.1.1 hj) (cwV 1 hC.S9.2.2.2.2 gL_law_X8_eventBath rfl rfl rfl (by decide +kernel) ⟨Nat.le_of_ble_eq_true rfl, Nat.le_of_ble_eq_true rfl⟩) [15, 16] rfl (by decide) (SameR.cons (SameR.cons SameR.nil)) (by subst eS; rfl) hP hD hS rfl hl.1 rfl (Nat.le_of_ble_eq_true rfl) ⟨hcn, hsn⟩ dL_law_2238 (fun H locs hP hD hS => ?_)
    refine lv_istore (lv' := [(7, .int (bE s9.σ j)), (6, .int 0), (5, .int (nI (4 * q))), (4, .ref a.oD), (3, .ref a.oA), (2, .ref a.am), (1, .ref a.aX), (0, .ref b)]) hx hb dL_law_2241 hl (by decide) rfl (fun ls hl => ?_)
    refine lv_aload_n hx hb dL_law_2243 rfl (lv_at hl 5 rfl) ?_
    refine lw_thrown (s1 := S9) (t1 := S9) (k := 0) hC hP (by subst eS; rfl) hl.1 (Nat.le_of_ble_eq_true rfl) ⟨hcn, hsn⟩ dL_law_2244 ?_
    refine lv_iload hx hb dL_law_2247 (lv_at hl 1 rfl) ?_
    refine lv_icmp_eq (tgt := 2254) hx hb dL_law_2249 (by decide) (fun c_2249 => ?_) (fun c_2249 => ?_)
    rotate_left
    · exact absurd c_2249 (by decide)
    refine lv_iload hx hb dL_law_2254 (lv_at hl 1 rfl) ?_
    refine lv_if_ne (tgt := 2271) hx hb dL_law_2256 (by decide) (fun c_2256 => ?_) (fun c_2256 => ?_)
    · exact absurd c_2256 (by decide)
    refine lv_aload_n hx hb dL_law_2259 rfl (lv_at hl 4 rfl) ?_
    refine lv_iconst (v := 0) hx hb dL_law_2260 (by decide) ?_
    refine lw_ldL (s1 := S9) (t1 := S9) (x := (bE s9.σ j).toInt64) hC hP (by subst eS; rfl) dL_law_2261 ?_
    refine lv_iload hx hb dL_law_2262 (lv_at hl 0 rfl) ?_
    refine lv_i2l hx hb dL_law_2264 rfl ?_
    refine m_lcmp0 hx hb rfl dL_law_2265 ?_
    refine lv_if_eq (tgt := 2271) hx hb dL_law_2266 (by decide) (fun c_2266 => ?_) (fun c_2266 => ?_)
    rotate_left
    · exact absurd c_2266 (by decide)
    refine lv_goto (tgt := 2890) hx hb dL_law_2271 (by decide) ?_
    refine W.widen (k := cells + 1) (n := slots + 6) (by omega) (by omega) ?_
    exact kk S9 H locs ls (LI.of (LI.mono hI (by omega)) (by subst eS; rfl) (by subst eS; rfl) (by subst eS; rfl) (by subst eS; rfl) (by subst eS; rfl) (by subst eS; rfl) (by subst eS; rfl) (by subst eS; rfl) (by subst eS; rfl) (by subst eS; rfl) (by subst eS; rfl) (by subst eS; rfl) (by subst eS; rfl) (by subst eS; rfl) (by subst eS; rfl)) hP hD hS (lv_sub hl [2, 3, 4, 5, 6, 7] rfl)
  · obtain ⟨S9, eS⟩ : ∃ z : LwS, z = (LwS.mk s9.σ s9.υ s9.ς s9.hs s9.ep s9.fc s9.ml 1 s9.nx s9.ct s9.nb s9.n s9.LN s9.CM s9.ρ s9.x s9.x0 s9.f s9.gk s9.g1 s9.g2 s9.g3 s9.fb s9.fB s9.fA s9.fV s9.fP s9.fO s9.g s9.fo s9.fd) := ⟨_, rfl⟩
    refine lv_aload_n hx hb dL_law_2218 rfl (lv_at hl 4 rfl) ?_
    refine lv_aload_n hx hb dL_law_2219 rfl (lv_at hl 5 rfl) ?_
    refine lv_iload hx hb dL_law_2220 (lv_at hl 0 rfl) ?_
    refine lv_iconst (v := 1) hx hb dL_law_2222 (by decide) ?_
    refine lv_iadd hx hb dL_law_2223 ?_
    refine m_sld (v := xs (4 * q + 1)) hx hb hC.hX hC.hbl hC.hbA hS (k := 4 * q + 1) (m_add rfl rfl) (by omega) hC.hL rfl dL_law_2224 ?_
    refine lv_aload_n hx hb dL_law_2225 rfl (lv_at hl 2 rfl) ?_
    refine lw_w (Wc := (LCh cy a s9 s9)) (Wn := (LCh cy a S9 s9)) hC (w_eventBath_t l G cy kS vS a.aX a.na a.tr a.sn s9.hs a.hi a.sc s9.ep s9.fc a.ob s9.σ (xs (4 * q + 1)) a.oA s9.fo hC.hl9 hI.1.1 hF) (vx_cwSW 3 hC.S9.2.2.2.2 gL_law_L_eventBath rfl rfl rfl (by decide +kernel) ⟨Nat.le_of_ble_eq_true rfl, Nat.le_of_ble_eq_true rfl⟩) [0, 1, 24] rfl (by decide) (SameL.cons SameA.rf (SameL.cons SameA.rf (SameL.cons SameA.rf SameL.nil))) (by subst eS; rfl) hP hD hS rfl hl.1 rfl (Nat.le_of_ble_eq_true rfl) ⟨hc1, hs1⟩ dL_law_2226 (fun H locs hP hD hS => ?_)
    refine lv_istore (lv' := [(6, .int 1), (5, .int (nI (4 * q))), (4, .ref a.oD), (3, .ref a.oA), (2, .ref a.am), (1, .ref a.aX), (0, .ref b)]) hx hb dL_law_2229 hl (by decide) rfl (fun ls hl => ?_)
    refine lv_aload_n hx hb dL_law_2231 rfl (lv_at hl 4 rfl) ?_
    refine lv_aload_n hx hb dL_law_2232 rfl (lv_at hl 6 rfl) ?_
    refine lv_iload hx hb dL_law_2233 (lv_at hl 1 rfl) ?_
    refine lv_iconst (v := 1) hx hb dL_law_2235 (by decide) ?_
    refine lv_iadd hx hb dL_law_2236 ?_
    refine m_sld (v := xs (4 * q + 1)) hx hb hC.hX hC.hbl hC.hbA hS (k := 4 * q + 1) (m_add rfl rfl) (by omega) hC.hL rfl dL_law_2237 ?_
    refine lw_m (s1 := S9) (t1 := s9) (Wn := (LCh cy a S9 S9)) hC (c_X8_eventBath_no l G cy a.am a.aS a.aBf a.aAs a.aSv a.aPa a.aOu a.aTx a.aCo s9.ct s9.nb s9.LN ((s9.x0).1) s9.CM s9.hs s9.th (bI (s9.x0).2) s9.ep s9.fc s9.σ (xs (4 * q + 1)) hI.1.1 hF) (cwV 1 hC.S9.2.2.2.2 gL_law_X8_eventBath rfl rfl rfl (by decide +kernel) ⟨Nat.le_of_ble_eq_true rfl, Nat.le_of_ble_eq_true rfl⟩) [15, 16] rfl (by decide) (SameR.cons (SameR.cons SameR.nil)) (by subst eS; rfl) hP hD hS rfl hl.1 rfl (Nat.le_of_ble_eq_true rfl) ⟨hc1, hs1⟩ dL_law_2238 (fun H locs hP hD hS => ?_)
    refine lv_istore (lv' := [(7, .int 0), (6, .int 1), (5, .int (nI (4 * q))), (4, .ref a.oD), (3, .ref a.oA), (2, .ref a.am), (1, .ref a.aX), (0, .ref b)]) hx hb dL_law_2241 hl (by decide) rfl (fun ls hl => ?_)
    refine lv_aload_n hx hb dL_law_2243 rfl (lv_at hl 5 rfl) ?_
    refine lw_thrown (s1 := S9) (t1 := S9) (k := 1) hC hP (by subst eS; rfl) hl.1 (Nat.le_of_ble_eq_true rfl) ⟨hc1, hs1⟩ dL_law_2244 ?_
    refine lv_iload hx hb dL_law_2247 (lv_at hl 1 rfl) ?_
    refine lv_icmp_eq (tgt := 2254) hx hb dL_law_2249 (by decide) (fun c_2249 => ?_) (fun c_2249 => ?_)
    rotate_left
    · exact absurd c_2249 (by decide)
    refine lv_iload hx hb dL_law_2254 (lv_at hl 1 rfl) ?_
    refine lv_if_ne (tgt := 2271) hx hb dL_law_2256 (by decide) (fun c_2256 => ?_) (fun c_2256 => ?_)
    rotate_left
    · exact absurd c_2256 (by decide)
    refine lv_goto (tgt := 2890) hx hb dL_law_2271 (by decide) ?_
    exact kk S9 H locs ls (LI.of (LI.mono hI (by omega)) (by subst eS; rfl) (by subst eS; rfl) (by subst eS; rfl) (by subst eS; rfl) (by subst eS; rfl) (by subst eS; rfl) (by subst eS; rfl) (by subst eS; rfl) (by subst eS; rfl) (by subst eS; rfl) (by subst eS; rfl) (by subst eS; rfl) (by subst eS; rfl) (by subst eS; rfl) (by subst eS; rfl)) hP hD hS (lv_sub hl [2, 3, 4, 5, 6, 7] rfl)

set_option maxRecDepth 100000 in
set_option maxHeartbeats 4000000 in
theorem case_37 {p : Program} {l : Launch} {e : Env} {s : State} {m : MethodId} {below : List Frame} {meth : Method} {cq : Code} {G : va_G} {cy : Nat → ClassId} {kS vS : Nat → Nat} {A : Nat → Prop} {a : LA} {b L q : Nat} {xs : Nat → Int32} {Q : State → Prop} {n0 cells slots : Nat} (hC : LC l p s m meth cq G cy kS vS A b L xs) (hq : 4 * q + 4 ≤ L) (hn0 : n0 < 1000000) (hc1 : cells + 1 ≤ room_1.cells) (hs1 : slots + 6 ≤ room_1.slots) (kk : LGo p l e s m below meth cq G cy A a b q Q (n0 + 300) (cells + 1) (slots + 6) 2890) : LGo p l e s m below meth cq G cy A a b q Q n0 cells slots 2274 := by
  intro s9 H locs ls hI hP hD hS hl
  obtain ⟨hx, hb, hml, hown, hts⟩ := id hC.S9
  have hL9 := hC.hL
  have hc0 : cells + 0 ≤ room_1.cells := Nat.le_of_succ_le hc1
  have hcn : cells ≤ room_1.cells := Nat.le_of_succ_le hc1
  have hs0 : slots + 0 ≤ room_1.slots := Nat.le_trans (Nat.le_add_right slots 6) hs1
  have hsn : slots ≤ room_1.slots := Nat.le_trans (Nat.le_add_right slots 6) hs1
  have ho := hI.1.1
  have hN0 := ho.1
  have hM0 := ho.2.1
  have hE0 := ho.2.2.1
  have hnx := hI.2.2.2.2.1
  have hct := hI.2.2.2.2.2.1
  by_cases hF : inI (xs (4 * q + 1)) (nI (nE s9.σ)) = true
  · obtain ⟨j, hj, e1⟩ := ix_of (by omega) hF
    rcases hI.1.2.2.2.2.1 j hj with hl7 | hl7
    · obtain ⟨S9, eS⟩ : ∃ z : LwS, z = (LwS.mk s9.σ s9.υ s9.ς s9.hs s9.ep s9.fc s9.ml 1 s9.nx s9.ct s9.nb s9.n s9.LN s9.CM s9.ρ s9.x s9.x0 s9.f s9.gk s9.g1 s9.g2 s9.g3 s9.fb s9.fB s9.fA s9.fV s9.fP s9.fO s9.g s9.fo s9.fd) := ⟨_, rfl⟩
      refine lv_aload_n hx hb dL_law_2274 rfl (lv_at hl 4 rfl) ?_
      refine lv_aload_n hx hb dL_law_2275 rfl (lv_at hl 5 rfl) ?_
      refine lv_iload hx hb dL_law_2276 (lv_at hl 0 rfl) ?_
      refine lv_iconst (v := 1) hx hb dL_law_2278 (by decide) ?_
      refine lv_iadd hx hb dL_law_2279 ?_
      refine m_sld (v := nI j) hx hb hC.hX hC.hbl hC.hbA hS (k := 4 * q + 1) (m_add rfl rfl) (by omega) hC.hL e1 dL_law_2280 ?_
      refine lv_aload_n hx hb dL_law_2281 rfl (lv_at hl 2 rfl) ?_
      refine lw_w (Wc := (LCh cy a s9 s9)) (Wn := (LCh cy a S9 s9)) hC (w_eventLitres_2 l G cy kS vS a.aX a.na a.tr a.sn s9.hs a.hi a.sc s9.ep s9.fc a.ob s9.σ j a.oA s9.fo hC.hl9 hI.1.1 hj hl7) (vx_cwSW 3 hC.S9.2.2.2.2 gL_law_L_eventLitres rfl rfl rfl (by decide +kernel) ⟨Nat.le_of_ble_eq_true rfl, Nat.le_of_ble_eq_true rfl⟩) [0, 1, 24] rfl (by decide) (SameL.cons SameA.rf (SameL.cons SameA.rf (SameL.cons SameA.rf SameL.nil))) (by subst eS; rfl) hP hD hS rfl hl.1 rfl (Nat.le_of_ble_eq_true rfl) ⟨hc1, hs1⟩ dL_law_2282 (fun H locs hP hD hS => ?_)
      refine lv_istore (lv' := [(6, .int 1), (5, .int (nI (4 * q))), (4, .ref a.oD), (3, .ref a.oA), (2, .ref a.am), (1, .ref a.aX), (0, .ref b)]) hx hb dL_law_2285 hl (by decide) rfl (fun ls hl => ?_)
      refine lv_aload_n hx hb dL_law_2287 rfl (lv_at hl 4 rfl) ?_
      refine lv_aload_n hx hb dL_law_2288 rfl (lv_at hl 6 rfl) ?_
      refine lv_iload hx hb dL_law_2289 (lv_at hl 1 rfl) ?_
      refine lv_iconst (v := 1) hx hb dL_law_2291 (by decide) ?_
      refine lv_iadd hx hb dL_law_2292 ?_
      refine m_sld (v := nI j) hx hb hC.hX hC.hbl hC.hbA hS (k := 4 * q + 1) (m_add rfl rfl) (by omega) hC.hL e1 dL_law_2293 ?_
      refine lw_m (s1 := S9) (t1 := s9) (Wn := (LCh cy a S9 S9)) hC (c_X8_eventLitres_no2 l G cy a.am a.aS a.aBf a.aAs a.aSv a.aPa a.aOu a.aTx a.aCo s9.ct s9.nb s9.LN ((s9.x0).1) s9.CM s9.hs s9.th (bI (s9.x0).2) s9.ep s9.fc s9.σ j hI.1.1 hj hl7) (cwV 1 hC.S9.2.2.2.2 gL_law_X8_eventLitres rfl rfl rfl (by decide +kernel) ⟨Nat.le_of_ble_eq_true rfl, Nat.le_of_ble_eq_true rfl⟩) [15, 16] rfl (by decide) (SameR.cons (SameR.cons SameR.nil)) (by subst eS; rfl) hP hD hS rfl hl.1 rfl (Nat.le_of_ble_eq_true rfl) ⟨hc1, hs1⟩ dL_law_2294 (fun H locs hP hD hS => ?_)
      refine lv_istore (lv' := [(7, .int 0), (6, .int 1), (5, .int (nI (4 * q))), (4, .ref a.oD), (3, .ref a.oA), (2, .ref a.am), (1, .ref a.aX), (0, .ref b)]) hx hb dL_law_2297 hl (by decide) rfl (fun ls hl => ?_)
      refine lv_aload_n hx hb dL_law_2299 rfl (lv_at hl 5 rfl) ?_
      refine lw_thrown (s1 := S9) (t1 := S9) (k := 1) hC hP (by subst eS; rfl) hl.1 (Nat.le_of_ble_eq_true rfl) ⟨hc1, hs1⟩ dL_law_2300 ?_
      refine lv_iload hx hb dL_law_2303 (lv_at hl 1 rfl) ?_
      refine lv_icmp_eq (tgt := 2310) hx hb dL_law_2305 (by decide) (fun c_2305 => ?_) (fun c_2305 => ?_)
      rotate_left
      · exact absurd c_2305 (by decide)
      refine lv_iload hx hb dL_law_2310 (lv_at hl 1 rfl) ?_
      refine lv_if_ne (tgt := 2327) hx hb dL_law_2312 (by decide) (fun c_2312 => ?_) (fun c_2312 => ?_)
      rotate_left
      · exact absurd c_2312 (by decide)
      refine lv_goto (tgt := 2890) hx hb dL_law_2327 (by decide) ?_
      exact kk S9 H locs ls (LI.of (LI.mono hI (by omega)) (by subst eS; rfl) (by subst eS; rfl) (by subst eS; rfl) (by subst eS; rfl) (by subst eS; rfl) (by subst eS; rfl) (by subst eS; rfl) (by subst eS; rfl) (by subst eS; rfl) (by subst eS; rfl) (by subst eS; rfl) (by subst eS; rfl) (by subst eS; rfl) (by subst eS; rfl) (by subst eS; rfl)) hP hD hS (lv_sub hl [2, 3, 4, 5, 6, 7] rfl)
    · have h8 : ¬ lE s9.σ j ≤ 0 := fun z => by rw [Int32.le_iff_toInt_le, Int32.toInt_zero] at z; omega
      have h9 : ¬ lE s9.σ j = -1 := fun z => h8 (by rw [z]; decide)
      obtain ⟨S9, eS⟩ : ∃ z : LwS, z = (LwS.mk s9.σ s9.υ s9.ς s9.hs s9.ep s9.fc s9.ml 0 s9.nx s9.ct s9.nb s9.n s9.LN s9.CM s9.ρ s9.x s9.x0 s9.f s9.gk s9.g1 s9.g2 s9.g3 s9.fb s9.fB s9.fA s9.fV s9.fP s9.fO s9.g (fun _ => (lE s9.σ j).toInt64) s9.fd) := ⟨_, rfl⟩
      refine lv_aload_n hx hb dL_law_2274 rfl (lv_at hl 4 rfl) ?_
      refine lv_aload_n hx hb dL_law_2275 rfl (lv_at hl 5 rfl) ?_
      refine lv_iload hx hb dL_law_2276 (lv_at hl 0 rfl) ?_
      refine lv_iconst (v := 1) hx hb dL_law_2278 (by decide) ?_
      refine lv_iadd hx hb dL_law_2279 ?_
      refine m_sld (v := nI j) hx hb hC.hX hC.hbl hC.hbA hS (k := 4 * q + 1) (m_add rfl rfl) (by omega) hC.hL e1 dL_law_2280 ?_
      refine lv_aload_n hx hb dL_law_2281 rfl (lv_at hl 2 rfl) ?_
      refine lw_w (Wc := (LCh cy a s9 s9)) (Wn := (LCh cy a S9 s9)) hC (w_eventLitres_ok l G cy kS vS a.aX a.na a.tr a.sn s9.hs a.hi a.sc s9.ep s9.fc a.ob s9.σ j a.oA s9.fo hI.1.1 hj h9) (vx_cwSW 3 hC.S9.2.2.2.2 gL_law_L_eventLitres rfl rfl rfl (by decide +kernel) ⟨Nat.le_of_ble_eq_true rfl, Nat.le_of_ble_eq_true rfl⟩) [0, 1, 24] rfl (by decide) (SameL.cons SameA.rf (SameL.cons SameA.rf (SameL.cons SameA.one SameL.nil))) (by subst eS; rfl) hP hD hS rfl hl.1 rfl (Nat.le_of_ble_eq_true rfl) ⟨hc0, hs0⟩ dL_law_2282 (fun H locs hP hD hS => ?_)
      refine lv_istore (lv' := [(6, .int 0), (5, .int (nI (4 * q))), (4, .ref a.oD), (3, .ref a.oA), (2, .ref a.am), (1, .ref a.aX), (0, .ref b)]) hx hb dL_law_2285 hl (by decide) rfl (fun ls hl => ?_)
      refine lv_aload_n hx hb dL_law_2287 rfl (lv_at hl 4 rfl) ?_
      refine lv_aload_n hx hb dL_law_2288 rfl (lv_at hl 6 rfl) ?_
      refine lv_iload hx hb dL_law_2289 (lv_at hl 1 rfl) ?_
      refine lv_iconst (v := 1) hx hb dL_law_2291 (by decide) ?_
      refine lv_iadd hx hb dL_law_2292 ?_
      refine m_sld (v := nI j) hx hb hC.hX hC.hbl hC.hbA hS (k := 4 * q + 1) (m_add rfl rfl) (by omega) hC.hL e1 dL_law_2293 ?_
      refine lw_m (s1 := S9) (t1 := s9) (Wn := (LCh cy a S9 S9)) hC (c_X8_eventLitres_ok l G cy a.am a.aS a.aBf a.aAs a.aSv a.aPa a.aOu a.aTx a.aCo s9.ct s9.nb s9.LN ((s9.x0).1) s9.CM s9.hs s9.th (bI (s9.x0).2) s9.ep s9.fc s9.σ j hI.1.1 hj h8) (cwV 1 hC.S9.2.2.2.2 gL_law_X8_eventLitres rfl rfl rfl (by decide +kernel) ⟨Nat.le_of_ble_eq_true rfl, Nat.le_of_ble_eq_true rfl⟩) [15, 16] rfl (by decide) (SameR.cons (SameR.cons SameR.nil)) (by subst eS; rfl) hP hD hS rfl hl.1 rfl (Nat.le_of_ble_eq_true rfl) ⟨hcn, hsn⟩ dL_law_2294 (fun H locs hP hD hS => ?_)
      refine lv_istore (lv' := [(7, .int (lE s9.σ j)), (6, .int 0), (5, .int (nI (4 * q))), (4, .ref a.oD), (3, .ref a.oA), (2, .ref a.am), (1, .ref a.aX), (0, .ref b)]) hx hb dL_law_2297 hl (by decide) rfl (fun ls hl => ?_)
      refine lv_aload_n hx hb dL_law_2299 rfl (lv_at hl 5 rfl) ?_
      refine lw_thrown (s1 := S9) (t1 := S9) (k := 0) hC hP (by subst eS; rfl) hl.1 (Nat.le_of_ble_eq_true rfl) ⟨hcn, hsn⟩ dL_law_2300 ?_
      refine lv_iload hx hb dL_law_2303 (lv_at hl 1 rfl) ?_
      refine lv_icmp_eq (tgt := 2310) hx hb dL_law_2305 (by decide) (fun c_2305 => ?_) (fun c_2305 => ?_)
      rotate_left
      · exact absurd c_2305 (by decide)
      refine lv_iload hx hb dL_law_2310 (lv_at hl 1 rfl) ?_
      refine lv_if_ne (tgt := 2327) hx hb dL_law_2312 (by decide) (fun c_2312 => ?_) (fun c_2312 => ?_)
      · exact absurd c_2312 (by decide)
      refine lv_aload_n hx hb dL_law_2315 rfl (lv_at hl 4 rfl) ?_
      refine lv_iconst (v := 0) hx hb dL_law_2316 (by decide) ?_
      refine lw_ldL (s1 := S9) (t1 := S9) (x := (lE s9.σ j).toInt64) hC hP (by subst eS; rfl) dL_law_2317 ?_
      refine lv_iload hx hb dL_law_2318 (lv_at hl 0 rfl) ?_
      refine lv_i2l hx hb dL_law_2320 rfl ?_
      refine m_lcmp0 hx hb rfl dL_law_2321 ?_
      refine lv_if_eq (tgt := 2327) hx hb dL_law_2322 (by decide) (fun c_2322 => ?_) (fun c_2322 => ?_)
      rotate_left
      · exact absurd c_2322 (by decide)
      refine lv_goto (tgt := 2890) hx hb dL_law_2327 (by decide) ?_
      refine W.widen (k := cells + 1) (n := slots + 6) (by omega) (by omega) ?_
      exact kk S9 H locs ls (LI.of (LI.mono hI (by omega)) (by subst eS; rfl) (by subst eS; rfl) (by subst eS; rfl) (by subst eS; rfl) (by subst eS; rfl) (by subst eS; rfl) (by subst eS; rfl) (by subst eS; rfl) (by subst eS; rfl) (by subst eS; rfl) (by subst eS; rfl) (by subst eS; rfl) (by subst eS; rfl) (by subst eS; rfl) (by subst eS; rfl)) hP hD hS (lv_sub hl [2, 3, 4, 5, 6, 7] rfl)
  · obtain ⟨S9, eS⟩ : ∃ z : LwS, z = (LwS.mk s9.σ s9.υ s9.ς s9.hs s9.ep s9.fc s9.ml 1 s9.nx s9.ct s9.nb s9.n s9.LN s9.CM s9.ρ s9.x s9.x0 s9.f s9.gk s9.g1 s9.g2 s9.g3 s9.fb s9.fB s9.fA s9.fV s9.fP s9.fO s9.g s9.fo s9.fd) := ⟨_, rfl⟩
    refine lv_aload_n hx hb dL_law_2274 rfl (lv_at hl 4 rfl) ?_
    refine lv_aload_n hx hb dL_law_2275 rfl (lv_at hl 5 rfl) ?_
    refine lv_iload hx hb dL_law_2276 (lv_at hl 0 rfl) ?_
    refine lv_iconst (v := 1) hx hb dL_law_2278 (by decide) ?_
    refine lv_iadd hx hb dL_law_2279 ?_
    refine m_sld (v := xs (4 * q + 1)) hx hb hC.hX hC.hbl hC.hbA hS (k := 4 * q + 1) (m_add rfl rfl) (by omega) hC.hL rfl dL_law_2280 ?_
    refine lv_aload_n hx hb dL_law_2281 rfl (lv_at hl 2 rfl) ?_
    refine lw_w (Wc := (LCh cy a s9 s9)) (Wn := (LCh cy a S9 s9)) hC (w_eventLitres_t l G cy kS vS a.aX a.na a.tr a.sn s9.hs a.hi a.sc s9.ep s9.fc a.ob s9.σ (xs (4 * q + 1)) a.oA s9.fo hC.hl9 hI.1.1 hF) (vx_cwSW 3 hC.S9.2.2.2.2 gL_law_L_eventLitres rfl rfl rfl (by decide +kernel) ⟨Nat.le_of_ble_eq_true rfl, Nat.le_of_ble_eq_true rfl⟩) [0, 1, 24] rfl (by decide) (SameL.cons SameA.rf (SameL.cons SameA.rf (SameL.cons SameA.rf SameL.nil))) (by subst eS; rfl) hP hD hS rfl hl.1 rfl (Nat.le_of_ble_eq_true rfl) ⟨hc1, hs1⟩ dL_law_2282 (fun H locs hP hD hS => ?_)
    refine lv_istore (lv' := [(6, .int 1), (5, .int (nI (4 * q))), (4, .ref a.oD), (3, .ref a.oA), (2, .ref a.am), (1, .ref a.aX), (0, .ref b)]) hx hb dL_law_2285 hl (by decide) rfl (fun ls hl => ?_)
    refine lv_aload_n hx hb dL_law_2287 rfl (lv_at hl 4 rfl) ?_
    refine lv_aload_n hx hb dL_law_2288 rfl (lv_at hl 6 rfl) ?_
    refine lv_iload hx hb dL_law_2289 (lv_at hl 1 rfl) ?_
    refine lv_iconst (v := 1) hx hb dL_law_2291 (by decide) ?_
    refine lv_iadd hx hb dL_law_2292 ?_
    refine m_sld (v := xs (4 * q + 1)) hx hb hC.hX hC.hbl hC.hbA hS (k := 4 * q + 1) (m_add rfl rfl) (by omega) hC.hL rfl dL_law_2293 ?_
    refine lw_m (s1 := S9) (t1 := s9) (Wn := (LCh cy a S9 S9)) hC (c_X8_eventLitres_no l G cy a.am a.aS a.aBf a.aAs a.aSv a.aPa a.aOu a.aTx a.aCo s9.ct s9.nb s9.LN ((s9.x0).1) s9.CM s9.hs s9.th (bI (s9.x0).2) s9.ep s9.fc s9.σ (xs (4 * q + 1)) hI.1.1 hF) (cwV 1 hC.S9.2.2.2.2 gL_law_X8_eventLitres rfl rfl rfl (by decide +kernel) ⟨Nat.le_of_ble_eq_true rfl, Nat.le_of_ble_eq_true rfl⟩) [15, 16] rfl (by decide) (SameR.cons (SameR.cons SameR.nil)) (by subst eS; rfl) hP hD hS rfl hl.1 rfl (Nat.le_of_ble_eq_true rfl) ⟨hc1, hs1⟩ dL_law_2294 (fun H locs hP hD hS => ?_)
    refine lv_istore (lv' := [(7, .int 0), (6, .int 1), (5, .int (nI (4 * q))), (4, .ref a.oD), (3, .ref a.oA), (2, .ref a.am), (1, .ref a.aX), (0, .ref b)]) hx hb dL_law_2297 hl (by decide) rfl (fun ls hl => ?_)
    refine lv_aload_n hx hb dL_law_2299 rfl (lv_at hl 5 rfl) ?_
    refine lw_thrown (s1 := S9) (t1 := S9) (k := 1) hC hP (by subst eS; rfl) hl.1 (Nat.le_of_ble_eq_true rfl) ⟨hc1, hs1⟩ dL_law_2300 ?_
    refine lv_iload hx hb dL_law_2303 (lv_at hl 1 rfl) ?_
    refine lv_icmp_eq (tgt := 2310) hx hb dL_law_2305 (by decide) (fun c_2305 => ?_) (fun c_2305 => ?_)
    rotate_left
    · exact absurd c_2305 (by decide)
    refine lv_iload hx hb dL_law_2310 (lv_at hl 1 rfl) ?_
    refine lv_if_ne (tgt := 2327) hx hb dL_law_2312 (by decide) (fun c_2312 => ?_) (fun c_2312 => ?_)
    rotate_left
    · exact absurd c_2312 (by decide)
    refine lv_goto (tgt := 2890) hx hb dL_law_2327 (by decide) ?_
    exact kk S9 H locs ls (LI.of (LI.mono hI (by omega)) (by subst eS; rfl) (by subst eS; rfl) (by subst eS; rfl) (by subst eS; rfl) (by subst eS; rfl) (by subst eS; rfl) (by subst eS; rfl) (by subst eS; rfl) (by subst eS; rfl) (by subst eS; rfl) (by subst eS; rfl) (by subst eS; rfl) (by subst eS; rfl) (by subst eS; rfl) (by subst eS; rfl)) hP hD hS (lv_sub hl [2, 3, 4, 5, 6, 7] rfl)

set_option maxRecDepth 100000 in
set_option maxHeartbeats 4000000 in
theorem case_38 {p : Program} {l : Launch} {e : Env} {s : State} {m : MethodId} {below : List Frame} {meth : Method} {cq : Code} {G : va_G} {cy : Nat → ClassId} {kS vS : Nat → Nat} {A : Nat → Prop} {a : LA} {b L q : Nat} {xs : Nat → Int32} {Q : State → Prop} {n0 cells slots : Nat} (hC : LC l p s m meth cq G cy kS vS A b L xs) (hq : 4 * q + 4 ≤ L) (hn0 : n0 < 1000000) (hc1 : cells + 1 ≤ room_1.cells) (hs1 : slots + 6 ≤ room_1.slots) (kk : LGo p l e s m below meth cq G cy A a b q Q (n0 + 300) (cells + 1) (slots + 6) 2890) : LGo p l e s m below meth cq G cy A a b q Q n0 cells slots 2330 := by
  intro s9 H locs ls hI hP hD hS hl
  obtain ⟨hx, hb, hml, hown, hts⟩ := id hC.S9
  have hL9 := hC.hL
  have hc0 : cells + 0 ≤ room_1.cells := Nat.le_of_succ_le hc1
  have hcn : cells ≤ room_1.cells := Nat.le_of_succ_le hc1
  have hs0 : slots + 0 ≤ room_1.slots := Nat.le_trans (Nat.le_add_right slots 6) hs1
  have hsn : slots ≤ room_1.slots := Nat.le_trans (Nat.le_add_right slots 6) hs1
  have ho := hI.1.1
  have hN0 := ho.1
  have hM0 := ho.2.1
  have hE0 := ho.2.2.1
  have hnx := hI.2.2.2.2.1
  have hct := hI.2.2.2.2.2.1
  obtain ⟨S9, eS⟩ : ∃ z : LwS, z = (LwS.mk s9.σ s9.υ s9.ς s9.hs s9.ep s9.fc s9.ml 0 s9.nx s9.ct s9.nb s9.n s9.LN s9.CM s9.ρ s9.x s9.x0 s9.f s9.gk s9.g1 s9.g2 s9.g3 s9.fb s9.fB s9.fA s9.fV s9.fP s9.fO s9.g s9.fo s9.fd) := ⟨_, rfl⟩
  refine lv_aload_n hx hb dL_law_2330 rfl (lv_at hl 4 rfl) ?_
  refine c_roVi hC.S9 (c_X7_time l G cy a.aX a.na a.tr a.sn s9.hs a.hi a.sc s9.ep s9.fc a.ob s9.σ hI.1.1) (cwV 0 hC.S9.2.2.2.2 gL_law_X7_time rfl rfl rfl (by decide +kernel) ⟨Nat.le_of_ble_eq_true rfl, Nat.le_of_ble_eq_true rfl⟩) PB.blind (va_recv hC.hK.1 hP (ci := 11) (q0 := offs (LCh cy a s9 s9) 0 + 0) rfl ((fl_at (Wc := (LCh cy a s9 s9)) (j := 0) (i := 0) (c := [(a.aX, .inr (11, [.ref (a.na 0), .ref (a.tr 0), .ref (a.sn 0), .int s9.hs, .ref a.hi, .ref a.sc, .int s9.ep, .int s9.fc, .ref a.ob]))]) rfl (Nat.le_of_ble_eq_true rfl)).trans rfl)) (PB.at hC.hK (PpartC (Wc := (LCh cy a s9 s9)) (cs := [[(a.aX, .inr (11, [.ref (a.na 0), .ref (a.tr 0), .ref (a.sn 0), .int s9.hs, .ref a.hi, .ref a.sc, .int s9.ep, .int s9.fc, .ref a.ob]))], sWd cy a.na s9.σ]) hP [0, 1] rfl)) rfl hl.1 rfl (Nat.le_of_ble_eq_true rfl) ⟨hcn, hsn⟩ dL_law_2331 ?_
  refine lv_aload_n hx hb dL_law_2334 rfl (lv_at hl 3 rfl) ?_
  refine lw_m (s1 := s9) (t1 := s9) (Wn := (LCh cy a s9 S9)) hC (c_X8_time l G cy a.am a.aS a.aBf a.aAs a.aSv a.aPa a.aOu a.aTx a.aCo s9.ct s9.nb s9.LN ((s9.x0).1) s9.CM s9.hs s9.th (bI (s9.x0).2) s9.ep s9.fc s9.σ hI.1.1) (cwV 0 hC.S9.2.2.2.2 gL_law_X8_time rfl rfl rfl (by decide +kernel) ⟨Nat.le_of_ble_eq_true rfl, Nat.le_of_ble_eq_true rfl⟩) [15, 16] rfl (by decide) (SameR.cons (SameR.cons SameR.nil)) (by subst eS; rfl) hP hD hS rfl hl.1 rfl (Nat.le_of_ble_eq_true rfl) ⟨hcn, hsn⟩ dL_law_2335 (fun H locs hP hD hS => ?_)
  refine lv_icmp_eq (tgt := 2890) hx hb dL_law_2338 (by decide) (fun c_2338 => ?_) (fun c_2338 => ?_)
  rotate_left
  · exact absurd rfl c_2338
  have hP : va_P G vwCl (fl (LCh cy a S9 S9)) H := by rw [LCh.left (s := s9) (by subst eS; rfl) (by subst eS; rfl) (by subst eS; rfl) (by subst eS; rfl) (by subst eS; rfl) (by subst eS; rfl) (by subst eS; rfl) (by subst eS; rfl) (by subst eS; rfl) (by subst eS; rfl) (by subst eS; rfl) (by subst eS; rfl) (by subst eS; rfl) (by subst eS; rfl) (by subst eS; rfl) (by subst eS; rfl) (by subst eS; rfl) (by subst eS; rfl) (by subst eS; rfl) (by subst eS; rfl) (by subst eS; rfl) (by subst eS; rfl)]; exact hP
  have hD : va_D A (fl (LCh cy a S9 S9)) := by rw [LCh.left (s := s9) (by subst eS; rfl) (by subst eS; rfl) (by subst eS; rfl) (by subst eS; rfl) (by subst eS; rfl) (by subst eS; rfl) (by subst eS; rfl) (by subst eS; rfl) (by subst eS; rfl) (by subst eS; rfl) (by subst eS; rfl) (by subst eS; rfl) (by subst eS; rfl) (by subst eS; rfl) (by subst eS; rfl) (by subst eS; rfl) (by subst eS; rfl) (by subst eS; rfl) (by subst eS; rfl) (by subst eS; rfl) (by subst eS; rfl) (by subst eS; rfl)]; exact hD
  refine W.widen (k := cells + 1) (n := slots + 6) (by omega) (by omega) ?_
  exact kk S9 H locs ls (LI.of (LI.mono hI (by omega)) (by subst eS; rfl) (by subst eS; rfl) (by subst eS; rfl) (by subst eS; rfl) (by subst eS; rfl) (by subst eS; rfl) (by subst eS; rfl) (by subst eS; rfl) (by subst eS; rfl) (by subst eS; rfl) (by subst eS; rfl) (by subst eS; rfl) (by subst eS; rfl) (by subst eS; rfl) (by subst eS; rfl)) hP hD hS (lv_sub hl [0, 1, 2, 3, 4, 5] rfl)

set_option maxRecDepth 100000 in
set_option maxHeartbeats 4000000 in
theorem case_39 {p : Program} {l : Launch} {e : Env} {s : State} {m : MethodId} {below : List Frame} {meth : Method} {cq : Code} {G : va_G} {cy : Nat → ClassId} {kS vS : Nat → Nat} {A : Nat → Prop} {a : LA} {b L q : Nat} {xs : Nat → Int32} {Q : State → Prop} {n0 cells slots : Nat} (hC : LC l p s m meth cq G cy kS vS A b L xs) (hq : 4 * q + 4 ≤ L) (hn0 : n0 < 1000000) (hc1 : cells + 1 ≤ room_1.cells) (hs1 : slots + 6 ≤ room_1.slots) (kk : LGo p l e s m below meth cq G cy A a b q Q (n0 + 300) (cells + 1) (slots + 6) 2890) : LGo p l e s m below meth cq G cy A a b q Q n0 cells slots 2343 := by
  intro s9 H locs ls hI hP hD hS hl
  obtain ⟨hx, hb, hml, hown, hts⟩ := id hC.S9
  have hL9 := hC.hL
  have hc0 : cells + 0 ≤ room_1.cells := Nat.le_of_succ_le hc1
  have hcn : cells ≤ room_1.cells := Nat.le_of_succ_le hc1
  have hs0 : slots + 0 ≤ room_1.slots := Nat.le_trans (Nat.le_add_right slots 6) hs1
  have hsn : slots ≤ room_1.slots := Nat.le_trans (Nat.le_add_right slots 6) hs1
  have ho := hI.1.1
  have hN0 := ho.1
  have hM0 := ho.2.1
  have hE0 := ho.2.2.1
  have hnx := hI.2.2.2.2.1
  have hct := hI.2.2.2.2.2.1
  obtain ⟨S9, eS⟩ : ∃ z : LwS, z = (LwS.mk s9.σ s9.υ s9.ς s9.hs s9.ep s9.fc s9.ml 0 s9.nx s9.ct s9.nb s9.n s9.LN s9.CM s9.ρ s9.x s9.x0 s9.f s9.gk s9.g1 s9.g2 s9.g3 s9.fb s9.fB s9.fA s9.fV s9.fP s9.fO s9.g s9.fo s9.fd) := ⟨_, rfl⟩
  refine lv_aload_n hx hb dL_law_2343 rfl (lv_at hl 4 rfl) ?_
  refine c_roVi hC.S9 (c_X7_defectionTotal l G cy a.aX a.na a.tr a.sn s9.hs a.hi a.sc s9.ep s9.fc a.ob s9.σ hI.1.1) (cwV 0 hC.S9.2.2.2.2 gL_law_X7_defectionTotal rfl rfl rfl (by decide +kernel) ⟨Nat.le_of_ble_eq_true rfl, Nat.le_of_ble_eq_true rfl⟩) PB.blind (va_recv hC.hK.1 hP (ci := 11) (q0 := offs (LCh cy a s9 s9) 0 + 0) rfl ((fl_at (Wc := (LCh cy a s9 s9)) (j := 0) (i := 0) (c := [(a.aX, .inr (11, [.ref (a.na 0), .ref (a.tr 0), .ref (a.sn 0), .int s9.hs, .ref a.hi, .ref a.sc, .int s9.ep, .int s9.fc, .ref a.ob]))]) rfl (Nat.le_of_ble_eq_true rfl)).trans rfl)) (PB.at hC.hK (PpartC (Wc := (LCh cy a s9 s9)) (cs := [[(a.aX, .inr (11, [.ref (a.na 0), .ref (a.tr 0), .ref (a.sn 0), .int s9.hs, .ref a.hi, .ref a.sc, .int s9.ep, .int s9.fc, .ref a.ob]))], sWd cy a.na s9.σ]) hP [0, 1] rfl)) rfl hl.1 rfl (Nat.le_of_ble_eq_true rfl) ⟨hcn, hsn⟩ dL_law_2344 ?_
  refine lv_aload_n hx hb dL_law_2347 rfl (lv_at hl 3 rfl) ?_
  refine lw_m (s1 := s9) (t1 := s9) (Wn := (LCh cy a s9 S9)) hC (c_X8_defectionTotal l G cy a.am a.aS a.aBf a.aAs a.aSv a.aPa a.aOu a.aTx a.aCo s9.ct s9.nb s9.LN ((s9.x0).1) s9.CM s9.hs s9.th (bI (s9.x0).2) s9.ep s9.fc s9.σ hI.1.1) (cwV 0 hC.S9.2.2.2.2 gL_law_X8_defectionTotal rfl rfl rfl (by decide +kernel) ⟨Nat.le_of_ble_eq_true rfl, Nat.le_of_ble_eq_true rfl⟩) [15, 16] rfl (by decide) (SameR.cons (SameR.cons SameR.nil)) (by subst eS; rfl) hP hD hS rfl hl.1 rfl (Nat.le_of_ble_eq_true rfl) ⟨hcn, hsn⟩ dL_law_2348 (fun H locs hP hD hS => ?_)
  refine lv_icmp_eq (tgt := 2890) hx hb dL_law_2351 (by decide) (fun c_2351 => ?_) (fun c_2351 => ?_)
  rotate_left
  · exact absurd rfl c_2351
  have hP : va_P G vwCl (fl (LCh cy a S9 S9)) H := by rw [LCh.left (s := s9) (by subst eS; rfl) (by subst eS; rfl) (by subst eS; rfl) (by subst eS; rfl) (by subst eS; rfl) (by subst eS; rfl) (by subst eS; rfl) (by subst eS; rfl) (by subst eS; rfl) (by subst eS; rfl) (by subst eS; rfl) (by subst eS; rfl) (by subst eS; rfl) (by subst eS; rfl) (by subst eS; rfl) (by subst eS; rfl) (by subst eS; rfl) (by subst eS; rfl) (by subst eS; rfl) (by subst eS; rfl) (by subst eS; rfl) (by subst eS; rfl)]; exact hP
  have hD : va_D A (fl (LCh cy a S9 S9)) := by rw [LCh.left (s := s9) (by subst eS; rfl) (by subst eS; rfl) (by subst eS; rfl) (by subst eS; rfl) (by subst eS; rfl) (by subst eS; rfl) (by subst eS; rfl) (by subst eS; rfl) (by subst eS; rfl) (by subst eS; rfl) (by subst eS; rfl) (by subst eS; rfl) (by subst eS; rfl) (by subst eS; rfl) (by subst eS; rfl) (by subst eS; rfl) (by subst eS; rfl) (by subst eS; rfl) (by subst eS; rfl) (by subst eS; rfl) (by subst eS; rfl) (by subst eS; rfl)]; exact hD
  refine W.widen (k := cells + 1) (n := slots + 6) (by omega) (by omega) ?_
  exact kk S9 H locs ls (LI.of (LI.mono hI (by omega)) (by subst eS; rfl) (by subst eS; rfl) (by subst eS; rfl) (by subst eS; rfl) (by subst eS; rfl) (by subst eS; rfl) (by subst eS; rfl) (by subst eS; rfl) (by subst eS; rfl) (by subst eS; rfl) (by subst eS; rfl) (by subst eS; rfl) (by subst eS; rfl) (by subst eS; rfl) (by subst eS; rfl)) hP hD hS (lv_sub hl [0, 1, 2, 3, 4, 5] rfl)

set_option maxRecDepth 100000 in
set_option maxHeartbeats 4000000 in
theorem case_40 {p : Program} {l : Launch} {e : Env} {s : State} {m : MethodId} {below : List Frame} {meth : Method} {cq : Code} {G : va_G} {cy : Nat → ClassId} {kS vS : Nat → Nat} {A : Nat → Prop} {a : LA} {b L q : Nat} {xs : Nat → Int32} {Q : State → Prop} {n0 cells slots : Nat} (hC : LC l p s m meth cq G cy kS vS A b L xs) (hq : 4 * q + 4 ≤ L) (hn0 : n0 < 1000000) (hc1 : cells + 1 ≤ room_1.cells) (hs1 : slots + 6 ≤ room_1.slots) (kk : LGo p l e s m below meth cq G cy A a b q Q (n0 + 300) (cells + 1) (slots + 6) 2890) : LGo p l e s m below meth cq G cy A a b q Q n0 cells slots 2356 := by
  intro s9 H locs ls hI hP hD hS hl
  obtain ⟨hx, hb, hml, hown, hts⟩ := id hC.S9
  have hL9 := hC.hL
  have hc0 : cells + 0 ≤ room_1.cells := Nat.le_of_succ_le hc1
  have hcn : cells ≤ room_1.cells := Nat.le_of_succ_le hc1
  have hs0 : slots + 0 ≤ room_1.slots := Nat.le_trans (Nat.le_add_right slots 6) hs1
  have hsn : slots ≤ room_1.slots := Nat.le_trans (Nat.le_add_right slots 6) hs1
  have ho := hI.1.1
  have hN0 := ho.1
  have hM0 := ho.2.1
  have hE0 := ho.2.2.1
  have hnx := hI.2.2.2.2.1
  have hct := hI.2.2.2.2.2.1
  obtain ⟨S9, eS⟩ : ∃ z : LwS, z = (LwS.mk s9.σ s9.υ s9.ς s9.hs s9.ep s9.fc s9.ml 0 s9.nx s9.ct s9.nb s9.n s9.LN s9.CM s9.ρ s9.x s9.x0 s9.f s9.gk s9.g1 s9.g2 s9.g3 s9.fb s9.fB s9.fA s9.fV s9.fP s9.fO s9.g s9.fo s9.fd) := ⟨_, rfl⟩
  refine lv_aload_n hx hb dL_law_2356 rfl (lv_at hl 4 rfl) ?_
  refine c_roVi hC.S9 (c_X7_tappedLitres l G cy a.aX a.na a.tr a.sn s9.hs a.hi a.sc s9.ep s9.fc a.ob s9.σ hI.1.1) (cwV 0 hC.S9.2.2.2.2 gL_law_X7_tappedLitres rfl rfl rfl (by decide +kernel) ⟨Nat.le_of_ble_eq_true rfl, Nat.le_of_ble_eq_true rfl⟩) PB.blind (va_recv hC.hK.1 hP (ci := 11) (q0 := offs (LCh cy a s9 s9) 0 + 0) rfl ((fl_at (Wc := (LCh cy a s9 s9)) (j := 0) (i := 0) (c := [(a.aX, .inr (11, [.ref (a.na 0), .ref (a.tr 0), .ref (a.sn 0), .int s9.hs, .ref a.hi, .ref a.sc, .int s9.ep, .int s9.fc, .ref a.ob]))]) rfl (Nat.le_of_ble_eq_true rfl)).trans rfl)) (PB.at hC.hK (PpartC (Wc := (LCh cy a s9 s9)) (cs := [[(a.aX, .inr (11, [.ref (a.na 0), .ref (a.tr 0), .ref (a.sn 0), .int s9.hs, .ref a.hi, .ref a.sc, .int s9.ep, .int s9.fc, .ref a.ob]))], sWd cy a.na s9.σ]) hP [0, 1] rfl)) rfl hl.1 rfl (Nat.le_of_ble_eq_true rfl) ⟨hcn, hsn⟩ dL_law_2357 ?_
  refine lv_aload_n hx hb dL_law_2360 rfl (lv_at hl 3 rfl) ?_
  refine lw_m (s1 := s9) (t1 := s9) (Wn := (LCh cy a s9 S9)) hC (c_X8_tappedLitres l G cy a.am a.aS a.aBf a.aAs a.aSv a.aPa a.aOu a.aTx a.aCo s9.ct s9.nb s9.LN ((s9.x0).1) s9.CM s9.hs s9.th (bI (s9.x0).2) s9.ep s9.fc s9.σ hI.1.1) (cwV 0 hC.S9.2.2.2.2 gL_law_X8_tappedLitres rfl rfl rfl (by decide +kernel) ⟨Nat.le_of_ble_eq_true rfl, Nat.le_of_ble_eq_true rfl⟩) [15, 16] rfl (by decide) (SameR.cons (SameR.cons SameR.nil)) (by subst eS; rfl) hP hD hS rfl hl.1 rfl (Nat.le_of_ble_eq_true rfl) ⟨hcn, hsn⟩ dL_law_2361 (fun H locs hP hD hS => ?_)
  refine lv_icmp_eq (tgt := 2890) hx hb dL_law_2364 (by decide) (fun c_2364 => ?_) (fun c_2364 => ?_)
  rotate_left
  · exact absurd rfl c_2364
  have hP : va_P G vwCl (fl (LCh cy a S9 S9)) H := by rw [LCh.left (s := s9) (by subst eS; rfl) (by subst eS; rfl) (by subst eS; rfl) (by subst eS; rfl) (by subst eS; rfl) (by subst eS; rfl) (by subst eS; rfl) (by subst eS; rfl) (by subst eS; rfl) (by subst eS; rfl) (by subst eS; rfl) (by subst eS; rfl) (by subst eS; rfl) (by subst eS; rfl) (by subst eS; rfl) (by subst eS; rfl) (by subst eS; rfl) (by subst eS; rfl) (by subst eS; rfl) (by subst eS; rfl) (by subst eS; rfl) (by subst eS; rfl)]; exact hP
  have hD : va_D A (fl (LCh cy a S9 S9)) := by rw [LCh.left (s := s9) (by subst eS; rfl) (by subst eS; rfl) (by subst eS; rfl) (by subst eS; rfl) (by subst eS; rfl) (by subst eS; rfl) (by subst eS; rfl) (by subst eS; rfl) (by subst eS; rfl) (by subst eS; rfl) (by subst eS; rfl) (by subst eS; rfl) (by subst eS; rfl) (by subst eS; rfl) (by subst eS; rfl) (by subst eS; rfl) (by subst eS; rfl) (by subst eS; rfl) (by subst eS; rfl) (by subst eS; rfl) (by subst eS; rfl) (by subst eS; rfl)]; exact hD
  refine W.widen (k := cells + 1) (n := slots + 6) (by omega) (by omega) ?_
  exact kk S9 H locs ls (LI.of (LI.mono hI (by omega)) (by subst eS; rfl) (by subst eS; rfl) (by subst eS; rfl) (by subst eS; rfl) (by subst eS; rfl) (by subst eS; rfl) (by subst eS; rfl) (by subst eS; rfl) (by subst eS; rfl) (by subst eS; rfl) (by subst eS; rfl) (by subst eS; rfl) (by subst eS; rfl) (by subst eS; rfl) (by subst eS; rfl)) hP hD hS (lv_sub hl [0, 1, 2, 3, 4, 5] rfl)

set_option maxRecDepth 100000 in
set_option maxHeartbeats 4000000 in
theorem case_41 {p : Program} {l : Launch} {e : Env} {s : State} {m : MethodId} {below : List Frame} {meth : Method} {cq : Code} {G : va_G} {cy : Nat → ClassId} {kS vS : Nat → Nat} {A : Nat → Prop} {a : LA} {b L q : Nat} {xs : Nat → Int32} {Q : State → Prop} {n0 cells slots : Nat} (hC : LC l p s m meth cq G cy kS vS A b L xs) (hq : 4 * q + 4 ≤ L) (hn0 : n0 < 1000000) (hc1 : cells + 1 ≤ room_1.cells) (hs1 : slots + 6 ≤ room_1.slots) (kk : LGo p l e s m below meth cq G cy A a b q Q (n0 + 300) (cells + 1) (slots + 6) 2890) : LGo p l e s m below meth cq G cy A a b q Q n0 cells slots 2369 := by
  intro s9 H locs ls hI hP hD hS hl
  obtain ⟨hx, hb, hml, hown, hts⟩ := id hC.S9
  have hL9 := hC.hL
  have hc0 : cells + 0 ≤ room_1.cells := Nat.le_of_succ_le hc1
  have hcn : cells ≤ room_1.cells := Nat.le_of_succ_le hc1
  have hs0 : slots + 0 ≤ room_1.slots := Nat.le_trans (Nat.le_add_right slots 6) hs1
  have hsn : slots ≤ room_1.slots := Nat.le_trans (Nat.le_add_right slots 6) hs1
  have ho := hI.1.1
  have hN0 := ho.1
  have hM0 := ho.2.1
  have hE0 := ho.2.2.1
  have hnx := hI.2.2.2.2.1
  have hct := hI.2.2.2.2.2.1
  obtain ⟨S9, eS⟩ : ∃ z : LwS, z = (LwS.mk s9.σ s9.υ s9.ς s9.hs s9.ep s9.fc s9.ml 0 s9.nx s9.ct s9.nb s9.n s9.LN s9.CM s9.ρ s9.x s9.x0 s9.f s9.gk s9.g1 s9.g2 s9.g3 s9.fb s9.fB s9.fA s9.fV s9.fP s9.fO s9.g s9.fo s9.fd) := ⟨_, rfl⟩
  refine lv_aload_n hx hb dL_law_2369 rfl (lv_at hl 4 rfl) ?_
  refine c_roVi hC.S9 (c_X7_drainedLitres l G cy a.aX a.na a.tr a.sn s9.hs a.hi a.sc s9.ep s9.fc a.ob s9.σ hI.1.1) (cwV 0 hC.S9.2.2.2.2 gL_law_X7_drainedLitres rfl rfl rfl (by decide +kernel) ⟨Nat.le_of_ble_eq_true rfl, Nat.le_of_ble_eq_true rfl⟩) PB.blind (va_recv hC.hK.1 hP (ci := 11) (q0 := offs (LCh cy a s9 s9) 0 + 0) rfl ((fl_at (Wc := (LCh cy a s9 s9)) (j := 0) (i := 0) (c := [(a.aX, .inr (11, [.ref (a.na 0), .ref (a.tr 0), .ref (a.sn 0), .int s9.hs, .ref a.hi, .ref a.sc, .int s9.ep, .int s9.fc, .ref a.ob]))]) rfl (Nat.le_of_ble_eq_true rfl)).trans rfl)) (PB.at hC.hK (PpartC (Wc := (LCh cy a s9 s9)) (cs := [[(a.aX, .inr (11, [.ref (a.na 0), .ref (a.tr 0), .ref (a.sn 0), .int s9.hs, .ref a.hi, .ref a.sc, .int s9.ep, .int s9.fc, .ref a.ob]))], sWd cy a.na s9.σ]) hP [0, 1] rfl)) rfl hl.1 rfl (Nat.le_of_ble_eq_true rfl) ⟨hcn, hsn⟩ dL_law_2370 ?_
  refine lv_aload_n hx hb dL_law_2373 rfl (lv_at hl 3 rfl) ?_
  refine lw_m (s1 := s9) (t1 := s9) (Wn := (LCh cy a s9 S9)) hC (c_X8_drainedLitres l G cy a.am a.aS a.aBf a.aAs a.aSv a.aPa a.aOu a.aTx a.aCo s9.ct s9.nb s9.LN ((s9.x0).1) s9.CM s9.hs s9.th (bI (s9.x0).2) s9.ep s9.fc s9.σ hI.1.1) (cwV 0 hC.S9.2.2.2.2 gL_law_X8_drainedLitres rfl rfl rfl (by decide +kernel) ⟨Nat.le_of_ble_eq_true rfl, Nat.le_of_ble_eq_true rfl⟩) [15, 16] rfl (by decide) (SameR.cons (SameR.cons SameR.nil)) (by subst eS; rfl) hP hD hS rfl hl.1 rfl (Nat.le_of_ble_eq_true rfl) ⟨hcn, hsn⟩ dL_law_2374 (fun H locs hP hD hS => ?_)
  refine lv_icmp_eq (tgt := 2890) hx hb dL_law_2377 (by decide) (fun c_2377 => ?_) (fun c_2377 => ?_)
  rotate_left
  · exact absurd rfl c_2377
  have hP : va_P G vwCl (fl (LCh cy a S9 S9)) H := by rw [LCh.left (s := s9) (by subst eS; rfl) (by subst eS; rfl) (by subst eS; rfl) (by subst eS; rfl) (by subst eS; rfl) (by subst eS; rfl) (by subst eS; rfl) (by subst eS; rfl) (by subst eS; rfl) (by subst eS; rfl) (by subst eS; rfl) (by subst eS; rfl) (by subst eS; rfl) (by subst eS; rfl) (by subst eS; rfl) (by subst eS; rfl) (by subst eS; rfl) (by subst eS; rfl) (by subst eS; rfl) (by subst eS; rfl) (by subst eS; rfl) (by subst eS; rfl)]; exact hP
  have hD : va_D A (fl (LCh cy a S9 S9)) := by rw [LCh.left (s := s9) (by subst eS; rfl) (by subst eS; rfl) (by subst eS; rfl) (by subst eS; rfl) (by subst eS; rfl) (by subst eS; rfl) (by subst eS; rfl) (by subst eS; rfl) (by subst eS; rfl) (by subst eS; rfl) (by subst eS; rfl) (by subst eS; rfl) (by subst eS; rfl) (by subst eS; rfl) (by subst eS; rfl) (by subst eS; rfl) (by subst eS; rfl) (by subst eS; rfl) (by subst eS; rfl) (by subst eS; rfl) (by subst eS; rfl) (by subst eS; rfl)]; exact hD
  refine W.widen (k := cells + 1) (n := slots + 6) (by omega) (by omega) ?_
  exact kk S9 H locs ls (LI.of (LI.mono hI (by omega)) (by subst eS; rfl) (by subst eS; rfl) (by subst eS; rfl) (by subst eS; rfl) (by subst eS; rfl) (by subst eS; rfl) (by subst eS; rfl) (by subst eS; rfl) (by subst eS; rfl) (by subst eS; rfl) (by subst eS; rfl) (by subst eS; rfl) (by subst eS; rfl) (by subst eS; rfl) (by subst eS; rfl)) hP hD hS (lv_sub hl [0, 1, 2, 3, 4, 5] rfl)

set_option maxRecDepth 100000 in
set_option maxHeartbeats 4000000 in
theorem case_42 {p : Program} {l : Launch} {e : Env} {s : State} {m : MethodId} {below : List Frame} {meth : Method} {cq : Code} {G : va_G} {cy : Nat → ClassId} {kS vS : Nat → Nat} {A : Nat → Prop} {a : LA} {b L q : Nat} {xs : Nat → Int32} {Q : State → Prop} {n0 cells slots : Nat} (hC : LC l p s m meth cq G cy kS vS A b L xs) (hq : 4 * q + 4 ≤ L) (hn0 : n0 < 1000000) (hc1 : cells + 1 ≤ room_1.cells) (hs1 : slots + 6 ≤ room_1.slots) (kk : LGo p l e s m below meth cq G cy A a b q Q (n0 + 300) (cells + 1) (slots + 6) 2890) : LGo p l e s m below meth cq G cy A a b q Q n0 cells slots 2382 := by
  intro s9 H locs ls hI hP hD hS hl
  obtain ⟨hx, hb, hml, hown, hts⟩ := id hC.S9
  have hL9 := hC.hL
  have hc0 : cells + 0 ≤ room_1.cells := Nat.le_of_succ_le hc1
  have hcn : cells ≤ room_1.cells := Nat.le_of_succ_le hc1
  have hs0 : slots + 0 ≤ room_1.slots := Nat.le_trans (Nat.le_add_right slots 6) hs1
  have hsn : slots ≤ room_1.slots := Nat.le_trans (Nat.le_add_right slots 6) hs1
  have ho := hI.1.1
  have hN0 := ho.1
  have hM0 := ho.2.1
  have hE0 := ho.2.2.1
  have hnx := hI.2.2.2.2.1
  have hct := hI.2.2.2.2.2.1
  obtain ⟨S9, eS⟩ : ∃ z : LwS, z = (LwS.mk s9.σ s9.υ s9.ς s9.hs s9.ep s9.fc s9.ml 0 s9.nx s9.ct s9.nb s9.n s9.LN s9.CM s9.ρ s9.x s9.x0 s9.f s9.gk s9.g1 s9.g2 s9.g3 s9.fb s9.fB s9.fA s9.fV s9.fP s9.fO s9.g s9.fo s9.fd) := ⟨_, rfl⟩
  refine lv_aload_n hx hb dL_law_2382 rfl (lv_at hl 4 rfl) ?_
  refine c_roVi hC.S9 (c_X7_tappedHeat l G cy a.aX a.na a.tr a.sn s9.hs a.hi a.sc s9.ep s9.fc a.ob s9.σ hI.1.1) (cwV 0 hC.S9.2.2.2.2 gL_law_X7_tappedHeat rfl rfl rfl (by decide +kernel) ⟨Nat.le_of_ble_eq_true rfl, Nat.le_of_ble_eq_true rfl⟩) PB.blind (va_recv hC.hK.1 hP (ci := 11) (q0 := offs (LCh cy a s9 s9) 0 + 0) rfl ((fl_at (Wc := (LCh cy a s9 s9)) (j := 0) (i := 0) (c := [(a.aX, .inr (11, [.ref (a.na 0), .ref (a.tr 0), .ref (a.sn 0), .int s9.hs, .ref a.hi, .ref a.sc, .int s9.ep, .int s9.fc, .ref a.ob]))]) rfl (Nat.le_of_ble_eq_true rfl)).trans rfl)) (PB.at hC.hK (PpartC (Wc := (LCh cy a s9 s9)) (cs := [[(a.aX, .inr (11, [.ref (a.na 0), .ref (a.tr 0), .ref (a.sn 0), .int s9.hs, .ref a.hi, .ref a.sc, .int s9.ep, .int s9.fc, .ref a.ob]))], sWd cy a.na s9.σ]) hP [0, 1] rfl)) rfl hl.1 rfl (Nat.le_of_ble_eq_true rfl) ⟨hcn, hsn⟩ dL_law_2383 ?_
  refine lv_aload_n hx hb dL_law_2386 rfl (lv_at hl 3 rfl) ?_
  refine lw_m (s1 := s9) (t1 := s9) (Wn := (LCh cy a s9 S9)) hC (c_X8_tappedHeat l G cy a.am a.aS a.aBf a.aAs a.aSv a.aPa a.aOu a.aTx a.aCo s9.ct s9.nb s9.LN ((s9.x0).1) s9.CM s9.hs s9.th (bI (s9.x0).2) s9.ep s9.fc s9.σ hI.1.1) (cwV 0 hC.S9.2.2.2.2 gL_law_X8_tappedHeat rfl rfl rfl (by decide +kernel) ⟨Nat.le_of_ble_eq_true rfl, Nat.le_of_ble_eq_true rfl⟩) [15, 16] rfl (by decide) (SameR.cons (SameR.cons SameR.nil)) (by subst eS; rfl) hP hD hS rfl hl.1 rfl (Nat.le_of_ble_eq_true rfl) ⟨hcn, hsn⟩ dL_law_2387 (fun H locs hP hD hS => ?_)
  refine lv_icmp_eq (tgt := 2890) hx hb dL_law_2390 (by decide) (fun c_2390 => ?_) (fun c_2390 => ?_)
  rotate_left
  · exact absurd rfl c_2390
  have hP : va_P G vwCl (fl (LCh cy a S9 S9)) H := by rw [LCh.left (s := s9) (by subst eS; rfl) (by subst eS; rfl) (by subst eS; rfl) (by subst eS; rfl) (by subst eS; rfl) (by subst eS; rfl) (by subst eS; rfl) (by subst eS; rfl) (by subst eS; rfl) (by subst eS; rfl) (by subst eS; rfl) (by subst eS; rfl) (by subst eS; rfl) (by subst eS; rfl) (by subst eS; rfl) (by subst eS; rfl) (by subst eS; rfl) (by subst eS; rfl) (by subst eS; rfl) (by subst eS; rfl) (by subst eS; rfl) (by subst eS; rfl)]; exact hP
  have hD : va_D A (fl (LCh cy a S9 S9)) := by rw [LCh.left (s := s9) (by subst eS; rfl) (by subst eS; rfl) (by subst eS; rfl) (by subst eS; rfl) (by subst eS; rfl) (by subst eS; rfl) (by subst eS; rfl) (by subst eS; rfl) (by subst eS; rfl) (by subst eS; rfl) (by subst eS; rfl) (by subst eS; rfl) (by subst eS; rfl) (by subst eS; rfl) (by subst eS; rfl) (by subst eS; rfl) (by subst eS; rfl) (by subst eS; rfl) (by subst eS; rfl) (by subst eS; rfl) (by subst eS; rfl) (by subst eS; rfl)]; exact hD
  refine W.widen (k := cells + 1) (n := slots + 6) (by omega) (by omega) ?_
  exact kk S9 H locs ls (LI.of (LI.mono hI (by omega)) (by subst eS; rfl) (by subst eS; rfl) (by subst eS; rfl) (by subst eS; rfl) (by subst eS; rfl) (by subst eS; rfl) (by subst eS; rfl) (by subst eS; rfl) (by subst eS; rfl) (by subst eS; rfl) (by subst eS; rfl) (by subst eS; rfl) (by subst eS; rfl) (by subst eS; rfl) (by subst eS; rfl)) hP hD hS (lv_sub hl [0, 1, 2, 3, 4, 5] rfl)

set_option maxRecDepth 100000 in
set_option maxHeartbeats 4000000 in
theorem case_43 {p : Program} {l : Launch} {e : Env} {s : State} {m : MethodId} {below : List Frame} {meth : Method} {cq : Code} {G : va_G} {cy : Nat → ClassId} {kS vS : Nat → Nat} {A : Nat → Prop} {a : LA} {b L q : Nat} {xs : Nat → Int32} {Q : State → Prop} {n0 cells slots : Nat} (hC : LC l p s m meth cq G cy kS vS A b L xs) (hq : 4 * q + 4 ≤ L) (hn0 : n0 < 1000000) (hc1 : cells + 1 ≤ room_1.cells) (hs1 : slots + 6 ≤ room_1.slots) (kk : LGo p l e s m below meth cq G cy A a b q Q (n0 + 300) (cells + 1) (slots + 6) 2890) : LGo p l e s m below meth cq G cy A a b q Q n0 cells slots 2395 := by
  intro s9 H locs ls hI hP hD hS hl
  obtain ⟨hx, hb, hml, hown, hts⟩ := id hC.S9
  have hL9 := hC.hL
  have hc0 : cells + 0 ≤ room_1.cells := Nat.le_of_succ_le hc1
  have hcn : cells ≤ room_1.cells := Nat.le_of_succ_le hc1
  have hs0 : slots + 0 ≤ room_1.slots := Nat.le_trans (Nat.le_add_right slots 6) hs1
  have hsn : slots ≤ room_1.slots := Nat.le_trans (Nat.le_add_right slots 6) hs1
  have ho := hI.1.1
  have hN0 := ho.1
  have hM0 := ho.2.1
  have hE0 := ho.2.2.1
  have hnx := hI.2.2.2.2.1
  have hct := hI.2.2.2.2.2.1
  obtain ⟨S9, eS⟩ : ∃ z : LwS, z = (LwS.mk s9.σ s9.υ s9.ς s9.hs s9.ep s9.fc s9.ml 0 s9.nx s9.ct s9.nb s9.n s9.LN s9.CM s9.ρ s9.x s9.x0 s9.f s9.gk s9.g1 s9.g2 s9.g3 s9.fb s9.fB s9.fA s9.fV s9.fP s9.fO s9.g s9.fo s9.fd) := ⟨_, rfl⟩
  refine lv_aload_n hx hb dL_law_2395 rfl (lv_at hl 4 rfl) ?_
  refine c_roVi hC.S9 (c_X7_lostHeat l G cy a.aX a.na a.tr a.sn s9.hs a.hi a.sc s9.ep s9.fc a.ob s9.σ hI.1.1) (cwV 0 hC.S9.2.2.2.2 gL_law_X7_lostHeat rfl rfl rfl (by decide +kernel) ⟨Nat.le_of_ble_eq_true rfl, Nat.le_of_ble_eq_true rfl⟩) PB.blind (va_recv hC.hK.1 hP (ci := 11) (q0 := offs (LCh cy a s9 s9) 0 + 0) rfl ((fl_at (Wc := (LCh cy a s9 s9)) (j := 0) (i := 0) (c := [(a.aX, .inr (11, [.ref (a.na 0), .ref (a.tr 0), .ref (a.sn 0), .int s9.hs, .ref a.hi, .ref a.sc, .int s9.ep, .int s9.fc, .ref a.ob]))]) rfl (Nat.le_of_ble_eq_true rfl)).trans rfl)) (PB.at hC.hK (PpartC (Wc := (LCh cy a s9 s9)) (cs := [[(a.aX, .inr (11, [.ref (a.na 0), .ref (a.tr 0), .ref (a.sn 0), .int s9.hs, .ref a.hi, .ref a.sc, .int s9.ep, .int s9.fc, .ref a.ob]))], sWd cy a.na s9.σ]) hP [0, 1] rfl)) rfl hl.1 rfl (Nat.le_of_ble_eq_true rfl) ⟨hcn, hsn⟩ dL_law_2396 ?_
  refine lv_aload_n hx hb dL_law_2399 rfl (lv_at hl 3 rfl) ?_
  refine lw_m (s1 := s9) (t1 := s9) (Wn := (LCh cy a s9 S9)) hC (c_X8_lostHeat l G cy a.am a.aS a.aBf a.aAs a.aSv a.aPa a.aOu a.aTx a.aCo s9.ct s9.nb s9.LN ((s9.x0).1) s9.CM s9.hs s9.th (bI (s9.x0).2) s9.ep s9.fc s9.σ hI.1.1) (cwV 0 hC.S9.2.2.2.2 gL_law_X8_lostHeat rfl rfl rfl (by decide +kernel) ⟨Nat.le_of_ble_eq_true rfl, Nat.le_of_ble_eq_true rfl⟩) [15, 16] rfl (by decide) (SameR.cons (SameR.cons SameR.nil)) (by subst eS; rfl) hP hD hS rfl hl.1 rfl (Nat.le_of_ble_eq_true rfl) ⟨hcn, hsn⟩ dL_law_2400 (fun H locs hP hD hS => ?_)
  refine lv_icmp_eq (tgt := 2890) hx hb dL_law_2403 (by decide) (fun c_2403 => ?_) (fun c_2403 => ?_)
  rotate_left
  · exact absurd rfl c_2403
  have hP : va_P G vwCl (fl (LCh cy a S9 S9)) H := by rw [LCh.left (s := s9) (by subst eS; rfl) (by subst eS; rfl) (by subst eS; rfl) (by subst eS; rfl) (by subst eS; rfl) (by subst eS; rfl) (by subst eS; rfl) (by subst eS; rfl) (by subst eS; rfl) (by subst eS; rfl) (by subst eS; rfl) (by subst eS; rfl) (by subst eS; rfl) (by subst eS; rfl) (by subst eS; rfl) (by subst eS; rfl) (by subst eS; rfl) (by subst eS; rfl) (by subst eS; rfl) (by subst eS; rfl) (by subst eS; rfl) (by subst eS; rfl)]; exact hP
  have hD : va_D A (fl (LCh cy a S9 S9)) := by rw [LCh.left (s := s9) (by subst eS; rfl) (by subst eS; rfl) (by subst eS; rfl) (by subst eS; rfl) (by subst eS; rfl) (by subst eS; rfl) (by subst eS; rfl) (by subst eS; rfl) (by subst eS; rfl) (by subst eS; rfl) (by subst eS; rfl) (by subst eS; rfl) (by subst eS; rfl) (by subst eS; rfl) (by subst eS; rfl) (by subst eS; rfl) (by subst eS; rfl) (by subst eS; rfl) (by subst eS; rfl) (by subst eS; rfl) (by subst eS; rfl) (by subst eS; rfl)]; exact hD
  refine W.widen (k := cells + 1) (n := slots + 6) (by omega) (by omega) ?_
  exact kk S9 H locs ls (LI.of (LI.mono hI (by omega)) (by subst eS; rfl) (by subst eS; rfl) (by subst eS; rfl) (by subst eS; rfl) (by subst eS; rfl) (by subst eS; rfl) (by subst eS; rfl) (by subst eS; rfl) (by subst eS; rfl) (by subst eS; rfl) (by subst eS; rfl) (by subst eS; rfl) (by subst eS; rfl) (by subst eS; rfl) (by subst eS; rfl)) hP hD hS (lv_sub hl [0, 1, 2, 3, 4, 5] rfl)

set_option maxRecDepth 100000 in
set_option maxHeartbeats 4000000 in
theorem case_44 {p : Program} {l : Launch} {e : Env} {s : State} {m : MethodId} {below : List Frame} {meth : Method} {cq : Code} {G : va_G} {cy : Nat → ClassId} {kS vS : Nat → Nat} {A : Nat → Prop} {a : LA} {b L q : Nat} {xs : Nat → Int32} {Q : State → Prop} {n0 cells slots : Nat} (hC : LC l p s m meth cq G cy kS vS A b L xs) (hq : 4 * q + 4 ≤ L) (hn0 : n0 < 1000000) (hc1 : cells + 1 ≤ room_1.cells) (hs1 : slots + 6 ≤ room_1.slots) (kk : LGo p l e s m below meth cq G cy A a b q Q (n0 + 300) (cells + 1) (slots + 6) 2890) : LGo p l e s m below meth cq G cy A a b q Q n0 cells slots 2408 := by
  intro s9 H locs ls hI hP hD hS hl
  obtain ⟨hx, hb, hml, hown, hts⟩ := id hC.S9
  have hL9 := hC.hL
  have hc0 : cells + 0 ≤ room_1.cells := Nat.le_of_succ_le hc1
  have hcn : cells ≤ room_1.cells := Nat.le_of_succ_le hc1
  have hs0 : slots + 0 ≤ room_1.slots := Nat.le_trans (Nat.le_add_right slots 6) hs1
  have hsn : slots ≤ room_1.slots := Nat.le_trans (Nat.le_add_right slots 6) hs1
  have ho := hI.1.1
  have hN0 := ho.1
  have hM0 := ho.2.1
  have hE0 := ho.2.2.1
  have hnx := hI.2.2.2.2.1
  have hct := hI.2.2.2.2.2.1
  by_cases h0 : nD s9.σ = 0
  · obtain ⟨S9, eS⟩ : ∃ z : LwS, z = (LwS.mk s9.σ s9.υ s9.ς s9.hs s9.ep s9.fc s9.ml 1 s9.nx s9.ct s9.nb s9.n s9.LN s9.CM s9.ρ s9.x s9.x0 s9.f s9.gk s9.g1 s9.g2 s9.g3 s9.fb s9.fB s9.fA s9.fV s9.fP s9.fO s9.g s9.fo s9.fd) := ⟨_, rfl⟩
    refine lv_aload_n hx hb dL_law_2408 rfl (lv_at hl 4 rfl) ?_
    refine lv_aload hx hb dL_law_2409 (lv_at hl 1 rfl) ?_
    refine lw_w (Wc := (LCh cy a s9 s9)) (Wn := (LCh cy a S9 s9)) hC (w_contentShare_t l G cy kS vS a.aX a.na a.tr a.sn s9.hs a.hi a.sc s9.ep s9.fc a.ob s9.σ a.oD s9.fd hC.hl9 hI.1.1 h0) (vx_cwSW 2 hC.S9.2.2.2.2 gL_law_L_contentShare rfl rfl rfl (by decide +kernel) ⟨Nat.le_of_ble_eq_true rfl, Nat.le_of_ble_eq_true rfl⟩) [0, 1, 25] rfl (by decide) (SameL.cons SameA.rf (SameL.cons SameA.rf (SameL.cons SameA.rf SameL.nil))) (by subst eS; rfl) hP hD hS rfl hl.1 rfl (Nat.le_of_ble_eq_true rfl) ⟨hc1, hs1⟩ dL_law_2411 (fun H locs hP hD hS => ?_)
    refine lv_istore (lv' := [(6, .int 1), (5, .int (nI (4 * q))), (4, .ref a.oD), (3, .ref a.oA), (2, .ref a.am), (1, .ref a.aX), (0, .ref b)]) hx hb dL_law_2414 hl (by decide) rfl (fun ls hl => ?_)
    refine lv_aload_n hx hb dL_law_2416 rfl (lv_at hl 4 rfl) ?_
    refine lw_m (s1 := S9) (t1 := s9) (Wn := (LCh cy a S9 S9)) hC (c_X8_contentShare_no l G cy a.am a.aS a.aBf a.aAs a.aSv a.aPa a.aOu a.aTx a.aCo s9.ct s9.nb s9.LN ((s9.x0).1) s9.CM s9.hs s9.th (bI (s9.x0).2) s9.ep s9.fc s9.σ hI.1.1 h0) (cwV 0 hC.S9.2.2.2.2 gL_law_X8_contentShare rfl rfl rfl (by decide +kernel) ⟨Nat.le_of_ble_eq_true rfl, Nat.le_of_ble_eq_true rfl⟩) [15, 16] rfl (by decide) (SameR.cons (SameR.cons SameR.nil)) (by subst eS; rfl) hP hD hS rfl hl.1 rfl (Nat.le_of_ble_eq_true rfl) ⟨hc1, hs1⟩ dL_law_2417 (fun H locs hP hD hS => ?_)
    refine lv_fstore (lv' := [(7, .float FP.fconst0), (6, .int 1), (5, .int (nI (4 * q))), (4, .ref a.oD), (3, .ref a.oA), (2, .ref a.am), (1, .ref a.aX), (0, .ref b)]) hx hb dL_law_2420 hl (by decide) rfl (fun ls hl => ?_)
    refine lv_aload_n hx hb dL_law_2422 rfl (lv_at hl 5 rfl) ?_
    refine lw_thrown (s1 := S9) (t1 := S9) (k := 1) hC hP (by subst eS; rfl) hl.1 (Nat.le_of_ble_eq_true rfl) ⟨hc1, hs1⟩ dL_law_2423 ?_
    refine lv_iload hx hb dL_law_2426 (lv_at hl 1 rfl) ?_
    refine lv_icmp_eq (tgt := 2433) hx hb dL_law_2428 (by decide) (fun c_2428 => ?_) (fun c_2428 => ?_)
    rotate_left
    · exact absurd c_2428 (by decide)
    refine lv_iload hx hb dL_law_2433 (lv_at hl 1 rfl) ?_
    refine lv_if_ne (tgt := 2471) hx hb dL_law_2435 (by decide) (fun c_2435 => ?_) (fun c_2435 => ?_)
    rotate_left
    · exact absurd c_2435 (by decide)
    refine lv_goto (tgt := 2890) hx hb dL_law_2471 (by decide) ?_
    exact kk S9 H locs ls (LI.of (LI.mono hI (by omega)) (by subst eS; rfl) (by subst eS; rfl) (by subst eS; rfl) (by subst eS; rfl) (by subst eS; rfl) (by subst eS; rfl) (by subst eS; rfl) (by subst eS; rfl) (by subst eS; rfl) (by subst eS; rfl) (by subst eS; rfl) (by subst eS; rfl) (by subst eS; rfl) (by subst eS; rfl) (by subst eS; rfl)) hP hD hS (lv_sub hl [2, 3, 4, 5, 6, 7] rfl)
  · obtain ⟨S9, eS⟩ : ∃ z : LwS, z = (LwS.mk s9.σ s9.υ s9.ς s9.hs s9.ep s9.fc s9.ml 0 s9.nx s9.ct s9.nb s9.n s9.LN s9.CM s9.ρ s9.x s9.x0 s9.f s9.gk s9.g1 s9.g2 s9.g3 s9.fb s9.fB s9.fA s9.fV s9.fP s9.fO s9.g s9.fo (fun _ => FP.f2d (csh s9.σ))) := ⟨_, rfl⟩
    refine lv_aload_n hx hb dL_law_2408 rfl (lv_at hl 4 rfl) ?_
    refine lv_aload hx hb dL_law_2409 (lv_at hl 1 rfl) ?_
    refine lw_w (Wc := (LCh cy a s9 s9)) (Wn := (LCh cy a S9 s9)) hC (w_contentShare_ok l G cy kS vS a.aX a.na a.tr a.sn s9.hs a.hi a.sc s9.ep s9.fc a.ob s9.σ a.oD s9.fd hI.1.1 h0) (vx_cwSW 2 hC.S9.2.2.2.2 gL_law_L_contentShare rfl rfl rfl (by decide +kernel) ⟨Nat.le_of_ble_eq_true rfl, Nat.le_of_ble_eq_true rfl⟩) [0, 1, 25] rfl (by decide) (SameL.cons SameA.rf (SameL.cons SameA.rf (SameL.cons SameA.one SameL.nil))) (by subst eS; rfl) hP hD hS rfl hl.1 rfl (Nat.le_of_ble_eq_true rfl) ⟨hc0, hs0⟩ dL_law_2411 (fun H locs hP hD hS => ?_)
    refine lv_istore (lv' := [(6, .int 0), (5, .int (nI (4 * q))), (4, .ref a.oD), (3, .ref a.oA), (2, .ref a.am), (1, .ref a.aX), (0, .ref b)]) hx hb dL_law_2414 hl (by decide) rfl (fun ls hl => ?_)
    refine lv_aload_n hx hb dL_law_2416 rfl (lv_at hl 4 rfl) ?_
    refine lw_m (s1 := S9) (t1 := s9) (Wn := (LCh cy a S9 S9)) hC (c_X8_contentShare_ok l G cy a.am a.aS a.aBf a.aAs a.aSv a.aPa a.aOu a.aTx a.aCo s9.ct s9.nb s9.LN ((s9.x0).1) s9.CM s9.hs s9.th (bI (s9.x0).2) s9.ep s9.fc s9.σ hI.1.1 h0) (cwV 0 hC.S9.2.2.2.2 gL_law_X8_contentShare rfl rfl rfl (by decide +kernel) ⟨Nat.le_of_ble_eq_true rfl, Nat.le_of_ble_eq_true rfl⟩) [15, 16] rfl (by decide) (SameR.cons (SameR.cons SameR.nil)) (by subst eS; rfl) hP hD hS rfl hl.1 rfl (Nat.le_of_ble_eq_true rfl) ⟨hcn, hsn⟩ dL_law_2417 (fun H locs hP hD hS => ?_)
    refine lv_fstore (lv' := [(7, .float (csh s9.σ)), (6, .int 0), (5, .int (nI (4 * q))), (4, .ref a.oD), (3, .ref a.oA), (2, .ref a.am), (1, .ref a.aX), (0, .ref b)]) hx hb dL_law_2420 hl (by decide) rfl (fun ls hl => ?_)
    refine lv_aload_n hx hb dL_law_2422 rfl (lv_at hl 5 rfl) ?_
    refine lw_thrown (s1 := S9) (t1 := S9) (k := 0) hC hP (by subst eS; rfl) hl.1 (Nat.le_of_ble_eq_true rfl) ⟨hcn, hsn⟩ dL_law_2423 ?_
    refine lv_iload hx hb dL_law_2426 (lv_at hl 1 rfl) ?_
    refine lv_icmp_eq (tgt := 2433) hx hb dL_law_2428 (by decide) (fun c_2428 => ?_) (fun c_2428 => ?_)
    rotate_left
    · exact absurd c_2428 (by decide)
    refine lv_iload hx hb dL_law_2433 (lv_at hl 1 rfl) ?_
    refine lv_if_ne (tgt := 2471) hx hb dL_law_2435 (by decide) (fun c_2435 => ?_) (fun c_2435 => ?_)
    · exact absurd c_2435 (by decide)
    refine lv_aload hx hb dL_law_2438 (lv_at hl 3 rfl) ?_
    refine lv_iconst (v := 0) hx hb dL_law_2440 (by decide) ?_
    refine lw_ldD (s1 := S9) (t1 := S9) (x := FP.f2d (csh s9.σ)) hC hP (by subst eS; rfl) dL_law_2441 ?_
    refine lv_fload hx hb dL_law_2442 (lv_at hl 0 rfl) ?_
    refine lv_f2d hx hb dL_law_2444 (cs_ok ho h0).2.1 ?_
    refine lv_dcmp hx hb dL_law_2445 ?_
    refine lv_if_eq (tgt := 2471) hx hb dL_law_2446 (by decide) (fun c_2446 => ?_) (fun c_2446 => ?_)
    rotate_left
    · exact absurd (cs_ok ho h0).2.2 c_2446
    refine lv_goto (tgt := 2890) hx hb dL_law_2471 (by decide) ?_
    refine W.widen (k := cells + 1) (n := slots + 6) (by omega) (by omega) ?_
    exact kk S9 H locs ls (LI.of (LI.mono hI (by omega)) (by subst eS; rfl) (by subst eS; rfl) (by subst eS; rfl) (by subst eS; rfl) (by subst eS; rfl) (by subst eS; rfl) (by subst eS; rfl) (by subst eS; rfl) (by subst eS; rfl) (by subst eS; rfl) (by subst eS; rfl) (by subst eS; rfl) (by subst eS; rfl) (by subst eS; rfl) (by subst eS; rfl)) hP hD hS (lv_sub hl [2, 3, 4, 5, 6, 7] rfl)

set_option maxRecDepth 100000 in
set_option maxHeartbeats 4000000 in
theorem case_45 {p : Program} {l : Launch} {e : Env} {s : State} {m : MethodId} {below : List Frame} {meth : Method} {cq : Code} {G : va_G} {cy : Nat → ClassId} {kS vS : Nat → Nat} {A : Nat → Prop} {a : LA} {b L q : Nat} {xs : Nat → Int32} {Q : State → Prop} {n0 cells slots : Nat} (hC : LC l p s m meth cq G cy kS vS A b L xs) (hq : 4 * q + 4 ≤ L) (hn0 : n0 < 1000000) (hc1 : cells + 1 ≤ room_1.cells) (hs1 : slots + 6 ≤ room_1.slots) (kk : LGo p l e s m below meth cq G cy A a b q Q (n0 + 300) (cells + 1) (slots + 6) 2890) : LGo p l e s m below meth cq G cy A a b q Q n0 cells slots 2474 := by
  intro s9 H locs ls hI hP hD hS hl
  obtain ⟨hx, hb, hml, hown, hts⟩ := id hC.S9
  have hL9 := hC.hL
  have hc0 : cells + 0 ≤ room_1.cells := Nat.le_of_succ_le hc1
  have hcn : cells ≤ room_1.cells := Nat.le_of_succ_le hc1
  have hs0 : slots + 0 ≤ room_1.slots := Nat.le_trans (Nat.le_add_right slots 6) hs1
  have hsn : slots ≤ room_1.slots := Nat.le_trans (Nat.le_add_right slots 6) hs1
  have ho := hI.1.1
  have hN0 := ho.1
  have hM0 := ho.2.1
  have hE0 := ho.2.2.1
  have hnx := hI.2.2.2.2.1
  have hct := hI.2.2.2.2.2.1
  obtain ⟨S9, eS⟩ : ∃ z : LwS, z = (LwS.mk s9.σ s9.υ s9.ς s9.hs s9.ep s9.fc s9.ml 0 s9.nx s9.ct s9.nb s9.n s9.LN s9.CM s9.ρ s9.x s9.x0 s9.f s9.gk s9.g1 s9.g2 s9.g3 s9.fb s9.fB s9.fA s9.fV s9.fP s9.fO s9.g s9.fo s9.fd) := ⟨_, rfl⟩
  refine lv_aload_n hx hb dL_law_2474 rfl (lv_at hl 4 rfl) ?_
  refine c_roVi hC.S9 (c_X7_isConsistent l G cy a.aX a.na a.tr a.sn s9.hs a.hi a.sc s9.ep s9.fc a.ob s9.σ hI.1.1 (sum_M _ _ _) (of_add hI.1.2.2.2.2.2.1) (of_add hI.1.2.2.2.2.2.2)) (cwV 0 hC.S9.2.2.2.2 gL_law_X7_isConsistent rfl rfl rfl (by decide +kernel) ⟨Nat.le_of_ble_eq_true rfl, Nat.le_of_ble_eq_true rfl⟩) PB.blind (va_recv hC.hK.1 hP (ci := 11) (q0 := offs (LCh cy a s9 s9) 0 + 0) rfl ((fl_at (Wc := (LCh cy a s9 s9)) (j := 0) (i := 0) (c := [(a.aX, .inr (11, [.ref (a.na 0), .ref (a.tr 0), .ref (a.sn 0), .int s9.hs, .ref a.hi, .ref a.sc, .int s9.ep, .int s9.fc, .ref a.ob]))]) rfl (Nat.le_of_ble_eq_true rfl)).trans rfl)) (PB.at hC.hK (PpartC (Wc := (LCh cy a s9 s9)) (cs := [[(a.aX, .inr (11, [.ref (a.na 0), .ref (a.tr 0), .ref (a.sn 0), .int s9.hs, .ref a.hi, .ref a.sc, .int s9.ep, .int s9.fc, .ref a.ob]))], sWd cy a.na s9.σ]) hP [0, 1] rfl)) rfl hl.1 rfl (Nat.le_of_ble_eq_true rfl) ⟨hcn, hsn⟩ dL_law_2475 ?_
  refine lv_aload_n hx hb dL_law_2478 rfl (lv_at hl 3 rfl) ?_
  refine lw_m (s1 := s9) (t1 := s9) (Wn := (LCh cy a s9 S9)) hC (c_X8_isConsistent l G cy a.am a.aS a.aBf a.aAs a.aSv a.aPa a.aOu a.aTx a.aCo s9.ct s9.nb s9.LN ((s9.x0).1) s9.CM s9.hs s9.th (bI (s9.x0).2) s9.ep s9.fc s9.σ hI.1.1) (cwV 0 hC.S9.2.2.2.2 gL_law_X8_isConsistent rfl rfl rfl (by decide +kernel) ⟨Nat.le_of_ble_eq_true rfl, Nat.le_of_ble_eq_true rfl⟩) [15, 16] rfl (by decide) (SameR.cons (SameR.cons SameR.nil)) (by subst eS; rfl) hP hD hS rfl hl.1 rfl (Nat.le_of_ble_eq_true rfl) ⟨hcn, hsn⟩ dL_law_2479 (fun H locs hP hD hS => ?_)
  refine lv_icmp_eq (tgt := 2890) hx hb dL_law_2482 (by decide) (fun c_2482 => ?_) (fun c_2482 => ?_)
  rotate_left
  · exact absurd c_2482 (by decide)
  have hP : va_P G vwCl (fl (LCh cy a S9 S9)) H := by rw [LCh.left (s := s9) (by subst eS; rfl) (by subst eS; rfl) (by subst eS; rfl) (by subst eS; rfl) (by subst eS; rfl) (by subst eS; rfl) (by subst eS; rfl) (by subst eS; rfl) (by subst eS; rfl) (by subst eS; rfl) (by subst eS; rfl) (by subst eS; rfl) (by subst eS; rfl) (by subst eS; rfl) (by subst eS; rfl) (by subst eS; rfl) (by subst eS; rfl) (by subst eS; rfl) (by subst eS; rfl) (by subst eS; rfl) (by subst eS; rfl) (by subst eS; rfl)]; exact hP
  have hD : va_D A (fl (LCh cy a S9 S9)) := by rw [LCh.left (s := s9) (by subst eS; rfl) (by subst eS; rfl) (by subst eS; rfl) (by subst eS; rfl) (by subst eS; rfl) (by subst eS; rfl) (by subst eS; rfl) (by subst eS; rfl) (by subst eS; rfl) (by subst eS; rfl) (by subst eS; rfl) (by subst eS; rfl) (by subst eS; rfl) (by subst eS; rfl) (by subst eS; rfl) (by subst eS; rfl) (by subst eS; rfl) (by subst eS; rfl) (by subst eS; rfl) (by subst eS; rfl) (by subst eS; rfl) (by subst eS; rfl)]; exact hD
  refine W.widen (k := cells + 1) (n := slots + 6) (by omega) (by omega) ?_
  exact kk S9 H locs ls (LI.of (LI.mono hI (by omega)) (by subst eS; rfl) (by subst eS; rfl) (by subst eS; rfl) (by subst eS; rfl) (by subst eS; rfl) (by subst eS; rfl) (by subst eS; rfl) (by subst eS; rfl) (by subst eS; rfl) (by subst eS; rfl) (by subst eS; rfl) (by subst eS; rfl) (by subst eS; rfl) (by subst eS; rfl) (by subst eS; rfl)) hP hD hS (lv_sub hl [0, 1, 2, 3, 4, 5] rfl)

set_option maxRecDepth 100000 in
set_option maxHeartbeats 4000000 in
theorem case_46 {p : Program} {l : Launch} {e : Env} {s : State} {m : MethodId} {below : List Frame} {meth : Method} {cq : Code} {G : va_G} {cy : Nat → ClassId} {kS vS : Nat → Nat} {A : Nat → Prop} {a : LA} {b L q : Nat} {xs : Nat → Int32} {Q : State → Prop} {n0 cells slots : Nat} (hC : LC l p s m meth cq G cy kS vS A b L xs) (hq : 4 * q + 4 ≤ L) (hn0 : n0 < 1000000) (hc1 : cells + 1 ≤ room_1.cells) (hs1 : slots + 6 ≤ room_1.slots) (kk : LGo p l e s m below meth cq G cy A a b q Q (n0 + 300) (cells + 1) (slots + 6) 2890) : LGo p l e s m below meth cq G cy A a b q Q n0 cells slots 2487 := by
  intro s9 H locs ls hI hP hD hS hl
  obtain ⟨hx, hb, hml, hown, hts⟩ := id hC.S9
  have hL9 := hC.hL
  have hc0 : cells + 0 ≤ room_1.cells := Nat.le_of_succ_le hc1
  have hcn : cells ≤ room_1.cells := Nat.le_of_succ_le hc1
  have hs0 : slots + 0 ≤ room_1.slots := Nat.le_trans (Nat.le_add_right slots 6) hs1
  have hsn : slots ≤ room_1.slots := Nat.le_trans (Nat.le_add_right slots 6) hs1
  have ho := hI.1.1
  have hN0 := ho.1
  have hM0 := ho.2.1
  have hE0 := ho.2.2.1
  have hnx := hI.2.2.2.2.1
  have hct := hI.2.2.2.2.2.1
  by_cases hF : inI (xs (4 * q + 1)) (nI (nB s9.σ)) = true
  · obtain ⟨j, hj, e1⟩ := ix_of (by omega) hF
    obtain ⟨S9, eS⟩ : ∃ z : LwS, z = (LwS.mk s9.σ s9.υ s9.ς s9.hs s9.ep s9.fc (if s9.nb = 0 then s9.ml else 1) 0 s9.nx s9.ct ((rnd s9.σ j).length) s9.n s9.LN s9.CM s9.ρ s9.x s9.x0 s9.f s9.gk s9.g1 s9.g2 s9.g3 (wrS s9.fb 0 (rnd s9.σ j)) s9.fB s9.fA s9.fV s9.fP (wrS s9.fO 0 (rnd s9.σ j)) s9.g (fun _ => (nI (rnd s9.σ j).length).toInt64) s9.fd) := ⟨_, rfl⟩
    refine lv_aload_n hx hb dL_law_2487 rfl (lv_at hl 4 rfl) ?_
    refine lv_aload_n hx hb dL_law_2488 rfl (lv_at hl 5 rfl) ?_
    refine lv_iload hx hb dL_law_2489 (lv_at hl 0 rfl) ?_
    refine lv_iconst (v := 1) hx hb dL_law_2491 (by decide) ?_
    refine lv_iadd hx hb dL_law_2492 ?_
    refine m_sld (v := nI j) hx hb hC.hX hC.hbl hC.hbA hS (k := 4 * q + 1) (m_add rfl rfl) (by omega) hC.hL e1 dL_law_2493 ?_
    refine lv_aload_n hx hb dL_law_2494 rfl (lv_at hl 2 rfl) ?_
    refine lw_w (Wc := (LCh cy a s9 s9)) (Wn := (LCh cy a S9 s9)) hC (w_renderBath_ok l G cy kS vS a.aX a.na a.tr a.sn s9.hs a.hi a.sc s9.ep s9.fc a.ob a.vb s9.nb s9.ml s9.fb s9.σ j a.oA s9.fo hI.1.1 hj hI.1.2.1 hI.2.2.2.2.2.2.2.2.2.2.2.2.1) (vx_cwSW 3 hC.S9.2.2.2.2 gL_law_L_renderBath rfl rfl rfl (by decide +kernel) ⟨Nat.le_of_ble_eq_true rfl, Nat.le_of_ble_eq_true rfl⟩) [0, 1, 13, 14, 24] rfl (by decide) (SameL.cons SameA.rf (SameL.cons SameA.rf (SameL.cons SameA.one (SameL.cons SameA.one (SameL.cons SameA.one SameL.nil))))) (by subst eS; rfl) hP hD hS rfl hl.1 rfl (Nat.le_of_ble_eq_true rfl) ⟨hc0, hs0⟩ dL_law_2495 (fun H locs hP hD hS => ?_)
    refine lv_istore (lv' := [(6, .int 0), (5, .int (nI (4 * q))), (4, .ref a.oD), (3, .ref a.oA), (2, .ref a.am), (1, .ref a.aX), (0, .ref b)]) hx hb dL_law_2498 hl (by decide) rfl (fun ls hl => ?_)
    refine lv_aload_n hx hb dL_law_2500 rfl (lv_at hl 4 rfl) ?_
    refine lv_aload_n hx hb dL_law_2501 rfl (lv_at hl 6 rfl) ?_
    refine lv_iload hx hb dL_law_2502 (lv_at hl 1 rfl) ?_
    refine lv_iconst (v := 1) hx hb dL_law_2504 (by decide) ?_
    refine lv_iadd hx hb dL_law_2505 ?_
    refine m_sld (v := nI j) hx hb hC.hX hC.hbl hC.hbA hS (k := 4 * q + 1) (m_add rfl rfl) (by omega) hC.hL e1 dL_law_2506 ?_
    refine lw_m (s1 := S9) (t1 := s9) (Wn := (LCh cy a S9 S9)) hC (c_X8_renderBath_ok l G cy a.am a.aS a.aBf a.aAs a.aSv a.aPa a.aOu a.aTx a.aCo s9.ct s9.nb s9.LN ((s9.x0).1) s9.CM s9.hs s9.th (bI (s9.x0).2) s9.ep s9.fc s9.σ j s9.fO hI.1.1 hj hI.1.2.1) (cwV 1 hC.S9.2.2.2.2 gL_law_X8_renderBath rfl rfl rfl (by decide +kernel) ⟨Nat.le_of_ble_eq_true rfl, Nat.le_of_ble_eq_true rfl⟩) [15, 16, 21] rfl (by decide) (SameR.cons (SameR.cons (SameR.cons SameR.nil))) (by subst eS; rfl) hP hD hS rfl hl.1 rfl (Nat.le_of_ble_eq_true rfl) ⟨hcn, hsn⟩ dL_law_2507 (fun H locs hP hD hS => ?_)
    refine lv_istore (lv' := [(7, .int (nI ((rnd s9.σ j).length))), (6, .int 0), (5, .int (nI (4 * q))), (4, .ref a.oD), (3, .ref a.oA), (2, .ref a.am), (1, .ref a.aX), (0, .ref b)]) hx hb dL_law_2510 hl (by decide) rfl (fun ls hl => ?_)
    refine lv_aload_n hx hb dL_law_2512 rfl (lv_at hl 5 rfl) ?_
    refine lw_thrown (s1 := S9) (t1 := S9) (k := 0) hC hP (by subst eS; rfl) hl.1 (Nat.le_of_ble_eq_true rfl) ⟨hcn, hsn⟩ dL_law_2513 ?_
    refine lv_iload hx hb dL_law_2516 (lv_at hl 1 rfl) ?_
    refine lv_icmp_eq (tgt := 2523) hx hb dL_law_2518 (by decide) (fun c_2518 => ?_) (fun c_2518 => ?_)
    rotate_left
    · exact absurd c_2518 (by decide)
    refine lv_iload hx hb dL_law_2523 (lv_at hl 1 rfl) ?_
    refine lv_if_ne (tgt := 2540) hx hb dL_law_2525 (by decide) (fun c_2525 => ?_) (fun c_2525 => ?_)
    · exact absurd c_2525 (by decide)
    refine lv_aload_n hx hb dL_law_2528 rfl (lv_at hl 4 rfl) ?_
    refine lv_iconst (v := 0) hx hb dL_law_2529 (by decide) ?_
    refine lw_ldL (s1 := S9) (t1 := S9) (x := (nI (rnd s9.σ j).length).toInt64) hC hP (by subst eS; rfl) dL_law_2530 ?_
    refine lv_iload hx hb dL_law_2531 (lv_at hl 0 rfl) ?_
    refine lv_i2l hx hb dL_law_2533 rfl ?_
    refine m_lcmp0 hx hb rfl dL_law_2534 ?_
    refine lv_if_eq (tgt := 2540) hx hb dL_law_2535 (by decide) (fun c_2535 => ?_) (fun c_2535 => ?_)
    rotate_left
    · exact absurd c_2535 (by decide)
    refine lv_goto (tgt := 2890) hx hb dL_law_2540 (by decide) ?_
    refine W.widen (k := cells + 1) (n := slots + 6) (by omega) (by omega) ?_
    exact kk S9 H locs ls (LI.of ((LI.render (m := if s9.nb = 0 then s9.ml else 1) hI hj).mono (by omega)) (by subst eS; rfl) (by subst eS; rfl) (by subst eS; rfl) (by subst eS; rfl) (by subst eS; rfl) (by subst eS; rfl) (by subst eS; rfl) (by subst eS; rfl) (by subst eS; rfl) (by subst eS; rfl) (by subst eS; rfl) (by subst eS; rfl) (by subst eS; rfl) (by subst eS; rfl) (by subst eS; rfl)) hP hD hS (lv_sub hl [2, 3, 4, 5, 6, 7] rfl)
  · obtain ⟨S9, eS⟩ : ∃ z : LwS, z = (LwS.mk s9.σ s9.υ s9.ς s9.hs s9.ep s9.fc s9.ml 1 s9.nx s9.ct s9.nb s9.n s9.LN s9.CM s9.ρ s9.x s9.x0 s9.f s9.gk s9.g1 s9.g2 s9.g3 s9.fb s9.fB s9.fA s9.fV s9.fP s9.fO s9.g s9.fo s9.fd) := ⟨_, rfl⟩
    refine lv_aload_n hx hb dL_law_2487 rfl (lv_at hl 4 rfl) ?_
    refine lv_aload_n hx hb dL_law_2488 rfl (lv_at hl 5 rfl) ?_
    refine lv_iload hx hb dL_law_2489 (lv_at hl 0 rfl) ?_
    refine lv_iconst (v := 1) hx hb dL_law_2491 (by decide) ?_
    refine lv_iadd hx hb dL_law_2492 ?_
    refine m_sld (v := xs (4 * q + 1)) hx hb hC.hX hC.hbl hC.hbA hS (k := 4 * q + 1) (m_add rfl rfl) (by omega) hC.hL rfl dL_law_2493 ?_
    refine lv_aload_n hx hb dL_law_2494 rfl (lv_at hl 2 rfl) ?_
    refine lw_w (Wc := (LCh cy a s9 s9)) (Wn := (LCh cy a S9 s9)) hC (w_renderBath_1 l G cy kS vS a.aX a.na a.tr a.sn s9.hs a.hi a.sc s9.ep s9.fc a.ob s9.σ (xs (4 * q + 1)) a.oA s9.fo hC.hl9 hI.1.1 hF) (vx_cwSW 3 hC.S9.2.2.2.2 gL_law_L_renderBath rfl rfl rfl (by decide +kernel) ⟨Nat.le_of_ble_eq_true rfl, Nat.le_of_ble_eq_true rfl⟩) [0, 1, 24] rfl (by decide) (SameL.cons SameA.rf (SameL.cons SameA.rf (SameL.cons SameA.rf SameL.nil))) (by subst eS; rfl) hP hD hS rfl hl.1 rfl (Nat.le_of_ble_eq_true rfl) ⟨hc1, hs1⟩ dL_law_2495 (fun H locs hP hD hS => ?_)
    refine lv_istore (lv' := [(6, .int 1), (5, .int (nI (4 * q))), (4, .ref a.oD), (3, .ref a.oA), (2, .ref a.am), (1, .ref a.aX), (0, .ref b)]) hx hb dL_law_2498 hl (by decide) rfl (fun ls hl => ?_)
    refine lv_aload_n hx hb dL_law_2500 rfl (lv_at hl 4 rfl) ?_
    refine lv_aload_n hx hb dL_law_2501 rfl (lv_at hl 6 rfl) ?_
    refine lv_iload hx hb dL_law_2502 (lv_at hl 1 rfl) ?_
    refine lv_iconst (v := 1) hx hb dL_law_2504 (by decide) ?_
    refine lv_iadd hx hb dL_law_2505 ?_
    refine m_sld (v := xs (4 * q + 1)) hx hb hC.hX hC.hbl hC.hbA hS (k := 4 * q + 1) (m_add rfl rfl) (by omega) hC.hL rfl dL_law_2506 ?_
    refine lw_m (s1 := S9) (t1 := s9) (Wn := (LCh cy a S9 S9)) hC (c_X8_renderBath_no l G cy a.am a.aS a.aBf a.aAs a.aSv a.aPa a.aOu a.aTx a.aCo s9.ct s9.nb s9.LN ((s9.x0).1) s9.CM s9.hs s9.th (bI (s9.x0).2) s9.ep s9.fc s9.σ (xs (4 * q + 1)) hI.1.1 hF) (cwV 1 hC.S9.2.2.2.2 gL_law_X8_renderBath rfl rfl rfl (by decide +kernel) ⟨Nat.le_of_ble_eq_true rfl, Nat.le_of_ble_eq_true rfl⟩) [15, 16] rfl (by decide) (SameR.cons (SameR.cons SameR.nil)) (by subst eS; rfl) hP hD hS rfl hl.1 rfl (Nat.le_of_ble_eq_true rfl) ⟨hc1, hs1⟩ dL_law_2507 (fun H locs hP hD hS => ?_)
    refine lv_istore (lv' := [(7, .int 0), (6, .int 1), (5, .int (nI (4 * q))), (4, .ref a.oD), (3, .ref a.oA), (2, .ref a.am), (1, .ref a.aX), (0, .ref b)]) hx hb dL_law_2510 hl (by decide) rfl (fun ls hl => ?_)
    refine lv_aload_n hx hb dL_law_2512 rfl (lv_at hl 5 rfl) ?_
    refine lw_thrown (s1 := S9) (t1 := S9) (k := 1) hC hP (by subst eS; rfl) hl.1 (Nat.le_of_ble_eq_true rfl) ⟨hc1, hs1⟩ dL_law_2513 ?_
    refine lv_iload hx hb dL_law_2516 (lv_at hl 1 rfl) ?_
    refine lv_icmp_eq (tgt := 2523) hx hb dL_law_2518 (by decide) (fun c_2518 => ?_) (fun c_2518 => ?_)
    rotate_left
    · exact absurd c_2518 (by decide)
    refine lv_iload hx hb dL_law_2523 (lv_at hl 1 rfl) ?_
    refine lv_if_ne (tgt := 2540) hx hb dL_law_2525 (by decide) (fun c_2525 => ?_) (fun c_2525 => ?_)
    rotate_left
    · exact absurd c_2525 (by decide)
    refine lv_goto (tgt := 2890) hx hb dL_law_2540 (by decide) ?_
    exact kk S9 H locs ls (LI.of (LI.mono hI (by omega)) (by subst eS; rfl) (by subst eS; rfl) (by subst eS; rfl) (by subst eS; rfl) (by subst eS; rfl) (by subst eS; rfl) (by subst eS; rfl) (by subst eS; rfl) (by subst eS; rfl) (by subst eS; rfl) (by subst eS; rfl) (by subst eS; rfl) (by subst eS; rfl) (by subst eS; rfl) (by subst eS; rfl)) hP hD hS (lv_sub hl [2, 3, 4, 5, 6, 7] rfl)

set_option maxRecDepth 100000 in
set_option maxHeartbeats 4000000 in
theorem case_47 {p : Program} {l : Launch} {e : Env} {s : State} {m : MethodId} {below : List Frame} {meth : Method} {cq : Code} {G : va_G} {cy : Nat → ClassId} {kS vS : Nat → Nat} {A : Nat → Prop} {a : LA} {b L q : Nat} {xs : Nat → Int32} {Q : State → Prop} {n0 cells slots : Nat} (hC : LC l p s m meth cq G cy kS vS A b L xs) (hq : 4 * q + 4 ≤ L) (hn0 : n0 < 1000000) (hc1 : cells + 1 ≤ room_1.cells) (hs1 : slots + 6 ≤ room_1.slots) (kk : LGo p l e s m below meth cq G cy A a b q Q (n0 + 300) (cells + 1) (slots + 6) 2890) : LGo p l e s m below meth cq G cy A a b q Q n0 cells slots 2543 := by
  intro s9 H locs ls hI hP hD hS hl
  obtain ⟨hx, hb, hml, hown, hts⟩ := id hC.S9
  have hL9 := hC.hL
  have hc0 : cells + 0 ≤ room_1.cells := Nat.le_of_succ_le hc1
  have hcn : cells ≤ room_1.cells := Nat.le_of_succ_le hc1
  have hs0 : slots + 0 ≤ room_1.slots := Nat.le_trans (Nat.le_add_right slots 6) hs1
  have hsn : slots ≤ room_1.slots := Nat.le_trans (Nat.le_add_right slots 6) hs1
  have ho := hI.1.1
  have hN0 := ho.1
  have hM0 := ho.2.1
  have hE0 := ho.2.2.1
  have hnx := hI.2.2.2.2.1
  have hct := hI.2.2.2.2.2.1
  have h16 := hI.2.2.2.2.2.2.2.2.2.2.2.2.1
  have hO := hI.2.2.2.2.2.2.2.2.2.2.2.2.2
  by_cases hF : inR (xs (4 * q + 1)) 0 (nI s9.nb - 1) = true
  · obtain ⟨j, hj, e1⟩ := out_nI h16 hF
    obtain ⟨hO1, hO2, hO3⟩ := hO j hj
    obtain ⟨S9, eS⟩ : ∃ z : LwS, z = (LwS.mk s9.σ s9.υ s9.ς s9.hs s9.ep s9.fc s9.ml 0 s9.nx s9.ct s9.nb s9.n s9.LN s9.CM s9.ρ s9.x s9.x0 s9.f s9.gk s9.g1 s9.g2 s9.g3 s9.fb s9.fB s9.fA s9.fV s9.fP s9.fO s9.g (fun _ => (s9.fb j).toInt64) s9.fd) := ⟨_, rfl⟩
    refine lv_aload_n hx hb dL_law_2543 rfl (lv_at hl 4 rfl) ?_
    refine lv_aload_n hx hb dL_law_2544 rfl (lv_at hl 5 rfl) ?_
    refine lv_iload hx hb dL_law_2545 (lv_at hl 0 rfl) ?_
    refine lv_iconst (v := 1) hx hb dL_law_2547 (by decide) ?_
    refine lv_iadd hx hb dL_law_2548 ?_
    refine m_sld (v := nI j) hx hb hC.hX hC.hbl hC.hbA hS (k := 4 * q + 1) (m_add rfl rfl) (by omega) hC.hL e1 dL_law_2549 ?_
    refine lv_aload_n hx hb dL_law_2550 rfl (lv_at hl 2 rfl) ?_
    refine lw_w (Wc := (LCh cy a s9 s9)) (Wn := (LCh cy a S9 s9)) hC (w_outputAt_ok l G cy kS vS a.aX a.na a.tr a.sn s9.hs a.hi a.sc s9.ep s9.fc a.ob a.vb s9.nb s9.ml s9.fb s9.σ j a.oA s9.fo hj h16 hO2 hO3) (vx_cwSW 3 hC.S9.2.2.2.2 gL_law_L_outputAt rfl rfl rfl (by decide +kernel) ⟨Nat.le_of_ble_eq_true rfl, Nat.le_of_ble_eq_true rfl⟩) [0, 1, 13, 14, 24] rfl (by decide) (SameL.cons SameA.rf (SameL.cons SameA.rf (SameL.cons SameA.rf (SameL.cons SameA.rf (SameL.cons SameA.one SameL.nil))))) (by subst eS; rfl) hP hD hS rfl hl.1 rfl (Nat.le_of_ble_eq_true rfl) ⟨hc0, hs0⟩ dL_law_2551 (fun H locs hP hD hS => ?_)
    refine lv_istore (lv' := [(6, .int 0), (5, .int (nI (4 * q))), (4, .ref a.oD), (3, .ref a.oA), (2, .ref a.am), (1, .ref a.aX), (0, .ref b)]) hx hb dL_law_2554 hl (by decide) rfl (fun ls hl => ?_)
    refine lv_aload_n hx hb dL_law_2556 rfl (lv_at hl 4 rfl) ?_
    refine lv_aload_n hx hb dL_law_2557 rfl (lv_at hl 6 rfl) ?_
    refine lv_iload hx hb dL_law_2558 (lv_at hl 1 rfl) ?_
    refine lv_iconst (v := 1) hx hb dL_law_2560 (by decide) ?_
    refine lv_iadd hx hb dL_law_2561 ?_
    refine m_sld (v := nI j) hx hb hC.hX hC.hbl hC.hbA hS (k := 4 * q + 1) (m_add rfl rfl) (by omega) hC.hL e1 dL_law_2562 ?_
    refine lw_m (s1 := S9) (t1 := s9) (Wn := (LCh cy a S9 S9)) hC (c_X8_outputAt_ok l G cy a.am a.aS a.aBf a.aAs a.aSv a.aPa a.aOu a.aTx a.aCo s9.ct s9.nb s9.LN ((s9.x0).1) s9.CM s9.hs s9.th (bI (s9.x0).2) s9.ep s9.fc s9.σ j s9.fO hj (by omega) (by rw [hO1]; exact hO3)) (cwV 1 hC.S9.2.2.2.2 gL_law_X8_outputAt rfl rfl rfl (by decide +kernel) ⟨Nat.le_of_ble_eq_true rfl, Nat.le_of_ble_eq_true rfl⟩) [15, 16, 21] rfl (by decide) (SameR.cons (SameR.cons (SameR.cons SameR.nil))) (by subst eS; rfl) hP hD hS rfl hl.1 rfl (Nat.le_of_ble_eq_true rfl) ⟨hcn, hsn⟩ dL_law_2563 (fun H locs hP hD hS => ?_)
    refine lv_istore (lv' := [(7, .int (s9.fO j)), (6, .int 0), (5, .int (nI (4 * q))), (4, .ref a.oD), (3, .ref a.oA), (2, .ref a.am), (1, .ref a.aX), (0, .ref b)]) hx hb dL_law_2566 hl (by decide) rfl (fun ls hl => ?_)
    refine lv_aload_n hx hb dL_law_2568 rfl (lv_at hl 5 rfl) ?_
    refine lw_thrown (s1 := S9) (t1 := S9) (k := 0) hC hP (by subst eS; rfl) hl.1 (Nat.le_of_ble_eq_true rfl) ⟨hcn, hsn⟩ dL_law_2569 ?_
    refine lv_iload hx hb dL_law_2572 (lv_at hl 1 rfl) ?_
    refine lv_icmp_eq (tgt := 2579) hx hb dL_law_2574 (by decide) (fun c_2574 => ?_) (fun c_2574 => ?_)
    rotate_left
    · exact absurd c_2574 (by decide)
    refine lv_iload hx hb dL_law_2579 (lv_at hl 1 rfl) ?_
    refine lv_if_ne (tgt := 2596) hx hb dL_law_2581 (by decide) (fun c_2581 => ?_) (fun c_2581 => ?_)
    · exact absurd c_2581 (by decide)
    refine lv_aload_n hx hb dL_law_2584 rfl (lv_at hl 4 rfl) ?_
    refine lv_iconst (v := 0) hx hb dL_law_2585 (by decide) ?_
    refine lw_ldL (s1 := S9) (t1 := S9) (x := (s9.fb j).toInt64) hC hP (by subst eS; rfl) dL_law_2586 ?_
    refine lv_iload hx hb dL_law_2587 (lv_at hl 0 rfl) ?_
    refine lv_i2l hx hb dL_law_2589 rfl ?_
    refine m_lcmp0 hx hb (congrArg Int32.toInt64 hO1.symm) dL_law_2590 ?_
    refine lv_if_eq (tgt := 2596) hx hb dL_law_2591 (by decide) (fun c_2591 => ?_) (fun c_2591 => ?_)
    rotate_left
    · exact absurd c_2591 (by decide)
    refine lv_goto (tgt := 2890) hx hb dL_law_2596 (by decide) ?_
    refine W.widen (k := cells + 1) (n := slots + 6) (by omega) (by omega) ?_
    exact kk S9 H locs ls (LI.of (LI.mono hI (by omega)) (by subst eS; rfl) (by subst eS; rfl) (by subst eS; rfl) (by subst eS; rfl) (by subst eS; rfl) (by subst eS; rfl) (by subst eS; rfl) (by subst eS; rfl) (by subst eS; rfl) (by subst eS; rfl) (by subst eS; rfl) (by subst eS; rfl) (by subst eS; rfl) (by subst eS; rfl) (by subst eS; rfl)) hP hD hS (lv_sub hl [2, 3, 4, 5, 6, 7] rfl)
  · obtain ⟨S9, eS⟩ : ∃ z : LwS, z = (LwS.mk s9.σ s9.υ s9.ς s9.hs s9.ep s9.fc s9.ml 1 s9.nx s9.ct s9.nb s9.n s9.LN s9.CM s9.ρ s9.x s9.x0 s9.f s9.gk s9.g1 s9.g2 s9.g3 s9.fb s9.fB s9.fA s9.fV s9.fP s9.fO s9.g s9.fo s9.fd) := ⟨_, rfl⟩
    refine lv_aload_n hx hb dL_law_2543 rfl (lv_at hl 4 rfl) ?_
    refine lv_aload_n hx hb dL_law_2544 rfl (lv_at hl 5 rfl) ?_
    refine lv_iload hx hb dL_law_2545 (lv_at hl 0 rfl) ?_
    refine lv_iconst (v := 1) hx hb dL_law_2547 (by decide) ?_
    refine lv_iadd hx hb dL_law_2548 ?_
    refine m_sld (v := xs (4 * q + 1)) hx hb hC.hX hC.hbl hC.hbA hS (k := 4 * q + 1) (m_add rfl rfl) (by omega) hC.hL rfl dL_law_2549 ?_
    refine lv_aload_n hx hb dL_law_2550 rfl (lv_at hl 2 rfl) ?_
    refine lw_w (Wc := (LCh cy a s9 s9)) (Wn := (LCh cy a S9 s9)) hC (w_outputAt_1 l G cy kS vS a.aX a.na a.tr a.sn s9.hs a.hi a.sc s9.ep s9.fc a.ob a.vb s9.nb s9.ml s9.fb s9.σ (xs (4 * q + 1)) a.oA s9.fo hC.hl9 h16 hF) (vx_cwSW 3 hC.S9.2.2.2.2 gL_law_L_outputAt rfl rfl rfl (by decide +kernel) ⟨Nat.le_of_ble_eq_true rfl, Nat.le_of_ble_eq_true rfl⟩) [0, 1, 13, 14, 24] rfl (by decide) (SameL.cons SameA.rf (SameL.cons SameA.rf (SameL.cons SameA.rf (SameL.cons SameA.rf (SameL.cons SameA.rf SameL.nil))))) (by subst eS; rfl) hP hD hS rfl hl.1 rfl (Nat.le_of_ble_eq_true rfl) ⟨hc1, hs1⟩ dL_law_2551 (fun H locs hP hD hS => ?_)
    refine lv_istore (lv' := [(6, .int 1), (5, .int (nI (4 * q))), (4, .ref a.oD), (3, .ref a.oA), (2, .ref a.am), (1, .ref a.aX), (0, .ref b)]) hx hb dL_law_2554 hl (by decide) rfl (fun ls hl => ?_)
    refine lv_aload_n hx hb dL_law_2556 rfl (lv_at hl 4 rfl) ?_
    refine lv_aload_n hx hb dL_law_2557 rfl (lv_at hl 6 rfl) ?_
    refine lv_iload hx hb dL_law_2558 (lv_at hl 1 rfl) ?_
    refine lv_iconst (v := 1) hx hb dL_law_2560 (by decide) ?_
    refine lv_iadd hx hb dL_law_2561 ?_
    refine m_sld (v := xs (4 * q + 1)) hx hb hC.hX hC.hbl hC.hbA hS (k := 4 * q + 1) (m_add rfl rfl) (by omega) hC.hL rfl dL_law_2562 ?_
    refine lw_m (s1 := S9) (t1 := s9) (Wn := (LCh cy a S9 S9)) hC (c_X8_outputAt_no l G cy a.am a.aS a.aBf a.aAs a.aSv a.aPa a.aOu a.aTx a.aCo s9.ct s9.nb s9.LN ((s9.x0).1) s9.CM s9.hs s9.th (bI (s9.x0).2) s9.ep s9.fc s9.σ (xs (4 * q + 1)) hF) (cwV 1 hC.S9.2.2.2.2 gL_law_X8_outputAt rfl rfl rfl (by decide +kernel) ⟨Nat.le_of_ble_eq_true rfl, Nat.le_of_ble_eq_true rfl⟩) [15, 16] rfl (by decide) (SameR.cons (SameR.cons SameR.nil)) (by subst eS; rfl) hP hD hS rfl hl.1 rfl (Nat.le_of_ble_eq_true rfl) ⟨hc1, hs1⟩ dL_law_2563 (fun H locs hP hD hS => ?_)
    refine lv_istore (lv' := [(7, .int 32), (6, .int 1), (5, .int (nI (4 * q))), (4, .ref a.oD), (3, .ref a.oA), (2, .ref a.am), (1, .ref a.aX), (0, .ref b)]) hx hb dL_law_2566 hl (by decide) rfl (fun ls hl => ?_)
    refine lv_aload_n hx hb dL_law_2568 rfl (lv_at hl 5 rfl) ?_
    refine lw_thrown (s1 := S9) (t1 := S9) (k := 1) hC hP (by subst eS; rfl) hl.1 (Nat.le_of_ble_eq_true rfl) ⟨hc1, hs1⟩ dL_law_2569 ?_
    refine lv_iload hx hb dL_law_2572 (lv_at hl 1 rfl) ?_
    refine lv_icmp_eq (tgt := 2579) hx hb dL_law_2574 (by decide) (fun c_2574 => ?_) (fun c_2574 => ?_)
    rotate_left
    · exact absurd c_2574 (by decide)
    refine lv_iload hx hb dL_law_2579 (lv_at hl 1 rfl) ?_
    refine lv_if_ne (tgt := 2596) hx hb dL_law_2581 (by decide) (fun c_2581 => ?_) (fun c_2581 => ?_)
    rotate_left
    · exact absurd c_2581 (by decide)
    refine lv_goto (tgt := 2890) hx hb dL_law_2596 (by decide) ?_
    exact kk S9 H locs ls (LI.of (LI.mono hI (by omega)) (by subst eS; rfl) (by subst eS; rfl) (by subst eS; rfl) (by subst eS; rfl) (by subst eS; rfl) (by subst eS; rfl) (by subst eS; rfl) (by subst eS; rfl) (by subst eS; rfl) (by subst eS; rfl) (by subst eS; rfl) (by subst eS; rfl) (by subst eS; rfl) (by subst eS; rfl) (by subst eS; rfl)) hP hD hS (lv_sub hl [2, 3, 4, 5, 6, 7] rfl)

set_option maxRecDepth 100000 in
set_option maxHeartbeats 4000000 in
theorem case_48 {p : Program} {l : Launch} {e : Env} {s : State} {m : MethodId} {below : List Frame} {meth : Method} {cq : Code} {G : va_G} {cy : Nat → ClassId} {kS vS : Nat → Nat} {A : Nat → Prop} {a : LA} {b L q : Nat} {xs : Nat → Int32} {Q : State → Prop} {n0 cells slots : Nat} (hC : LC l p s m meth cq G cy kS vS A b L xs) (hq : 4 * q + 4 ≤ L) (hn0 : n0 < 1000000) (hc1 : cells + 1 ≤ room_1.cells) (hs1 : slots + 6 ≤ room_1.slots) (kk : LGo p l e s m below meth cq G cy A a b q Q (n0 + 300) (cells + 1) (slots + 6) 2890) : LGo p l e s m below meth cq G cy A a b q Q n0 cells slots 2599 := by
  intro s9 H locs ls hI hP hD hS hl
  obtain ⟨hx, hb, hml, hown, hts⟩ := id hC.S9
  have hL9 := hC.hL
  have hc0 : cells + 0 ≤ room_1.cells := Nat.le_of_succ_le hc1
  have hcn : cells ≤ room_1.cells := Nat.le_of_succ_le hc1
  have hs0 : slots + 0 ≤ room_1.slots := Nat.le_trans (Nat.le_add_right slots 6) hs1
  have hsn : slots ≤ room_1.slots := Nat.le_trans (Nat.le_add_right slots 6) hs1
  have ho := hI.1.1
  have hN0 := ho.1
  have hM0 := ho.2.1
  have hE0 := ho.2.2.1
  have hnx := hI.2.2.2.2.1
  have hct := hI.2.2.2.2.2.1
  have hc9 := chr_v (xs (4 * q + 1))
  have hL6 := hI.2.2.2.2.2.2.2.2.2.1
  by_cases hx1 : inR (((xs (4 * q + 1)).toUInt32 % 65536).toInt32) 32 126 = true
  · by_cases h60 : s9.LN = 60
    · obtain ⟨S9, eS⟩ : ∃ z : LwS, z = (LwS.mk s9.σ s9.υ s9.ς s9.hs s9.ep s9.fc s9.ml 2 s9.nx s9.ct s9.nb s9.n s9.LN s9.CM s9.ρ s9.x s9.x0 s9.f s9.gk s9.g1 s9.g2 s9.g3 s9.fb s9.fB s9.fA s9.fV s9.fP s9.fO s9.g s9.fo s9.fd) := ⟨_, rfl⟩
      refine lv_aload_n hx hb dL_law_2599 rfl (lv_at hl 4 rfl) ?_
      refine lv_aload_n hx hb dL_law_2600 rfl (lv_at hl 5 rfl) ?_
      refine lv_iload hx hb dL_law_2601 (lv_at hl 0 rfl) ?_
      refine lv_iconst (v := 1) hx hb dL_law_2603 (by decide) ?_
      refine lv_iadd hx hb dL_law_2604 ?_
      refine m_sld (v := xs (4 * q + 1)) hx hb hC.hX hC.hbl hC.hbA hS (k := 4 * q + 1) (m_add rfl rfl) (by omega) hC.hL rfl dL_law_2605 ?_
      refine lv_i2c (v := ((xs (4 * q + 1)).toUInt32 % 65536).toInt32) hx hb dL_law_2606 rfl ?_
      refine lv_aload_n hx hb dL_law_2607 rfl (lv_at hl 2 rfl) ?_
      refine lw_w (Wc := (LCh cy a s9 s9)) (Wn := (LCh cy a S9 s9)) hC (w_type_2 l G cy kS vS a.aX a.na a.tr a.sn s9.hs a.hi s9.ep s9.fc a.ob a.sc a.tx a.kd a.fs a.sd a.td s9.LN s9.n s9.x s9.f (((xs (4 * q + 1)).toUInt32 % 65536).toInt32) a.oA s9.fo hC.hl9 hx1 h60) (vx_cwSW 3 hC.S9.2.2.2.2 gL_law_L_type rfl rfl rfl (by decide +kernel) ⟨Nat.le_of_ble_eq_true rfl, Nat.le_of_ble_eq_true rfl⟩) [0, 7, 8, 24] rfl (by decide) (SameL.cons SameA.rf (SameL.cons SameA.rf (SameL.cons SameA.rf (SameL.cons SameA.rf SameL.nil)))) (by subst eS; rfl) hP hD hS rfl hl.1 rfl (Nat.le_of_ble_eq_true rfl) ⟨hc1, hs1⟩ dL_law_2608 (fun H locs hP hD hS => ?_)
      refine lv_istore (lv' := [(6, .int 2), (5, .int (nI (4 * q))), (4, .ref a.oD), (3, .ref a.oA), (2, .ref a.am), (1, .ref a.aX), (0, .ref b)]) hx hb dL_law_2611 hl (by decide) rfl (fun ls hl => ?_)
      refine lv_aload_n hx hb dL_law_2613 rfl (lv_at hl 4 rfl) ?_
      refine lv_aload_n hx hb dL_law_2614 rfl (lv_at hl 6 rfl) ?_
      refine lv_iload hx hb dL_law_2615 (lv_at hl 1 rfl) ?_
      refine lv_iconst (v := 1) hx hb dL_law_2617 (by decide) ?_
      refine lv_iadd hx hb dL_law_2618 ?_
      refine m_sld (v := xs (4 * q + 1)) hx hb hC.hX hC.hbl hC.hbA hS (k := 4 * q + 1) (m_add rfl rfl) (by omega) hC.hL rfl dL_law_2619 ?_
      refine lv_i2c (v := ((xs (4 * q + 1)).toUInt32 % 65536).toInt32) hx hb dL_law_2620 rfl ?_
      refine lw_m (s1 := S9) (t1 := s9) (Wn := (LCh cy a S9 S9)) hC (c_X8_type_no2 l G cy a.am a.aS a.aBf a.aAs a.aSv a.aPa a.aOu a.aTx a.aCo s9.ct s9.nb s9.LN ((s9.x0).1) s9.CM s9.hs s9.th (bI (s9.x0).2) s9.ep s9.fc (((xs (4 * q + 1)).toUInt32 % 65536).toInt32) hx1 h60) (cwV 1 hC.S9.2.2.2.2 gL_law_X8_type rfl rfl rfl (by decide +kernel) ⟨Nat.le_of_ble_eq_true rfl, Nat.le_of_ble_eq_true rfl⟩) [15] rfl (by decide) (SameR.cons SameR.nil) (by subst eS; rfl) hP hD hS rfl hl.1 rfl (Nat.le_of_ble_eq_true rfl) ⟨hc1, hs1⟩ dL_law_2621 (fun H locs hP hD hS => ?_)
      refine lv_istore (lv' := [(7, .int 0), (6, .int 2), (5, .int (nI (4 * q))), (4, .ref a.oD), (3, .ref a.oA), (2, .ref a.am), (1, .ref a.aX), (0, .ref b)]) hx hb dL_law_2624 hl (by decide) rfl (fun ls hl => ?_)
      refine lv_aload_n hx hb dL_law_2626 rfl (lv_at hl 5 rfl) ?_
      refine lw_thrown (s1 := S9) (t1 := S9) (k := 2) hC hP (by subst eS; rfl) hl.1 (Nat.le_of_ble_eq_true rfl) ⟨hc1, hs1⟩ dL_law_2627 ?_
      refine lv_iload hx hb dL_law_2630 (lv_at hl 1 rfl) ?_
      refine lv_icmp_eq (tgt := 2637) hx hb dL_law_2632 (by decide) (fun c_2632 => ?_) (fun c_2632 => ?_)
      rotate_left
      · exact absurd c_2632 (by decide)
      refine lv_iload hx hb dL_law_2637 (lv_at hl 1 rfl) ?_
      refine lv_if_ne (tgt := 2654) hx hb dL_law_2639 (by decide) (fun c_2639 => ?_) (fun c_2639 => ?_)
      rotate_left
      · exact absurd c_2639 (by decide)
      refine lv_goto (tgt := 2890) hx hb dL_law_2654 (by decide) ?_
      exact kk S9 H locs ls (LI.of (LI.mono hI (by omega)) (by subst eS; rfl) (by subst eS; rfl) (by subst eS; rfl) (by subst eS; rfl) (by subst eS; rfl) (by subst eS; rfl) (by subst eS; rfl) (by subst eS; rfl) (by subst eS; rfl) (by subst eS; rfl) (by subst eS; rfl) (by subst eS; rfl) (by subst eS; rfl) (by subst eS; rfl) (by subst eS; rfl)) hP hD hS (lv_sub hl [2, 3, 4, 5, 6, 7] rfl)
    · obtain ⟨S9, eS⟩ : ∃ z : LwS, z = (LwS.mk s9.σ s9.υ s9.ς s9.hs s9.ep s9.fc s9.ml 0 s9.nx s9.ct s9.nb s9.n (s9.LN + 1) s9.CM s9.ρ s9.x s9.x0 (upd s9.f s9.LN (((xs (4 * q + 1)).toUInt32 % 65536).toInt32)) s9.gk s9.g1 s9.g2 s9.g3 s9.fb s9.fB s9.fA s9.fV s9.fP s9.fO s9.g (fun _ => (nI (s9.LN + 1)).toInt64) s9.fd) := ⟨_, rfl⟩
      refine lv_aload_n hx hb dL_law_2599 rfl (lv_at hl 4 rfl) ?_
      refine lv_aload_n hx hb dL_law_2600 rfl (lv_at hl 5 rfl) ?_
      refine lv_iload hx hb dL_law_2601 (lv_at hl 0 rfl) ?_
      refine lv_iconst (v := 1) hx hb dL_law_2603 (by decide) ?_
      refine lv_iadd hx hb dL_law_2604 ?_
      refine m_sld (v := xs (4 * q + 1)) hx hb hC.hX hC.hbl hC.hbA hS (k := 4 * q + 1) (m_add rfl rfl) (by omega) hC.hL rfl dL_law_2605 ?_
      refine lv_i2c (v := ((xs (4 * q + 1)).toUInt32 % 65536).toInt32) hx hb dL_law_2606 rfl ?_
      refine lv_aload_n hx hb dL_law_2607 rfl (lv_at hl 2 rfl) ?_
      refine lw_w (Wc := (LCh cy a s9 s9)) (Wn := (LCh cy a S9 s9)) hC (w_type_ok l G cy kS vS a.aX a.na a.tr a.sn s9.hs a.hi s9.ep s9.fc a.ob a.sc a.tx a.kd a.fs a.sd a.td s9.LN s9.n s9.x s9.f (((xs (4 * q + 1)).toUInt32 % 65536).toInt32) a.oA s9.fo hx1 (by omega) hc9) (vx_cwSW 3 hC.S9.2.2.2.2 gL_law_L_type rfl rfl rfl (by decide +kernel) ⟨Nat.le_of_ble_eq_true rfl, Nat.le_of_ble_eq_true rfl⟩) [0, 7, 8, 24] rfl (by decide) (SameL.cons SameA.rf (SameL.cons SameA.one (SameL.cons SameA.one (SameL.cons SameA.one SameL.nil)))) (by subst eS; rfl) hP hD hS rfl hl.1 rfl (Nat.le_of_ble_eq_true rfl) ⟨hc0, hs0⟩ dL_law_2608 (fun H locs hP hD hS => ?_)
      refine lv_istore (lv' := [(6, .int 0), (5, .int (nI (4 * q))), (4, .ref a.oD), (3, .ref a.oA), (2, .ref a.am), (1, .ref a.aX), (0, .ref b)]) hx hb dL_law_2611 hl (by decide) rfl (fun ls hl => ?_)
      refine lv_aload_n hx hb dL_law_2613 rfl (lv_at hl 4 rfl) ?_
      refine lv_aload_n hx hb dL_law_2614 rfl (lv_at hl 6 rfl) ?_
      refine lv_iload hx hb dL_law_2615 (lv_at hl 1 rfl) ?_
      refine lv_iconst (v := 1) hx hb dL_law_2617 (by decide) ?_
      refine lv_iadd hx hb dL_law_2618 ?_
      refine m_sld (v := xs (4 * q + 1)) hx hb hC.hX hC.hbl hC.hbA hS (k := 4 * q + 1) (m_add rfl rfl) (by omega) hC.hL rfl dL_law_2619 ?_
      refine lv_i2c (v := ((xs (4 * q + 1)).toUInt32 % 65536).toInt32) hx hb dL_law_2620 rfl ?_
      refine lw_m (s1 := S9) (t1 := s9) (Wn := (LCh cy a S9 S9)) hC (c_X8_type_ok l G cy a.am a.aS a.aBf a.aAs a.aSv a.aPa a.aOu a.aTx a.aCo s9.ct s9.nb s9.LN ((s9.x0).1) s9.CM s9.hs s9.th (bI (s9.x0).2) s9.ep s9.fc (((xs (4 * q + 1)).toUInt32 % 65536).toInt32) s9.f hx1 (by omega) hc9) (cwV 1 hC.S9.2.2.2.2 gL_law_X8_type rfl rfl rfl (by decide +kernel) ⟨Nat.le_of_ble_eq_true rfl, Nat.le_of_ble_eq_true rfl⟩) [15, 22] rfl (by decide) (SameR.cons (SameR.cons SameR.nil)) (by subst eS; rfl) hP hD hS rfl hl.1 rfl (Nat.le_of_ble_eq_true rfl) ⟨hcn, hsn⟩ dL_law_2621 (fun H locs hP hD hS => ?_)
      refine lv_istore (lv' := [(7, .int (nI (s9.LN + 1))), (6, .int 0), (5, .int (nI (4 * q))), (4, .ref a.oD), (3, .ref a.oA), (2, .ref a.am), (1, .ref a.aX), (0, .ref b)]) hx hb dL_law_2624 hl (by decide) rfl (fun ls hl => ?_)
      refine lv_aload_n hx hb dL_law_2626 rfl (lv_at hl 5 rfl) ?_
      refine lw_thrown (s1 := S9) (t1 := S9) (k := 0) hC hP (by subst eS; rfl) hl.1 (Nat.le_of_ble_eq_true rfl) ⟨hcn, hsn⟩ dL_law_2627 ?_
      refine lv_iload hx hb dL_law_2630 (lv_at hl 1 rfl) ?_
      refine lv_icmp_eq (tgt := 2637) hx hb dL_law_2632 (by decide) (fun c_2632 => ?_) (fun c_2632 => ?_)
      rotate_left
      · exact absurd c_2632 (by decide)
      refine lv_iload hx hb dL_law_2637 (lv_at hl 1 rfl) ?_
      refine lv_if_ne (tgt := 2654) hx hb dL_law_2639 (by decide) (fun c_2639 => ?_) (fun c_2639 => ?_)
      · exact absurd c_2639 (by decide)
      refine lv_aload_n hx hb dL_law_2642 rfl (lv_at hl 4 rfl) ?_
      refine lv_iconst (v := 0) hx hb dL_law_2643 (by decide) ?_
      refine lw_ldL (s1 := S9) (t1 := S9) (x := (nI (s9.LN + 1)).toInt64) hC hP (by subst eS; rfl) dL_law_2644 ?_
      refine lv_iload hx hb dL_law_2645 (lv_at hl 0 rfl) ?_
      refine lv_i2l hx hb dL_law_2647 rfl ?_
      refine m_lcmp0 hx hb rfl dL_law_2648 ?_
      refine lv_if_eq (tgt := 2654) hx hb dL_law_2649 (by decide) (fun c_2649 => ?_) (fun c_2649 => ?_)
      rotate_left
      · exact absurd c_2649 (by decide)
      refine lv_goto (tgt := 2890) hx hb dL_law_2654 (by decide) ?_
      refine W.widen (k := cells + 1) (n := slots + 6) (by omega) (by omega) ?_
      exact kk S9 H locs ls (LI.of ((LI.typed hI (by omega) hx1 hc9).mono (by omega)) (by subst eS; rfl) (by subst eS; rfl) (by subst eS; rfl) (by subst eS; rfl) (by subst eS; rfl) (by subst eS; rfl) (by subst eS; rfl) (by subst eS; rfl) (by subst eS; rfl) (by subst eS; rfl) (by subst eS; rfl) (by subst eS; rfl) (by subst eS; rfl) (by subst eS; rfl) (by subst eS; rfl)) hP hD hS (lv_sub hl [2, 3, 4, 5, 6, 7] rfl)
  · obtain ⟨S9, eS⟩ : ∃ z : LwS, z = (LwS.mk s9.σ s9.υ s9.ς s9.hs s9.ep s9.fc s9.ml 1 s9.nx s9.ct s9.nb s9.n s9.LN s9.CM s9.ρ s9.x s9.x0 s9.f s9.gk s9.g1 s9.g2 s9.g3 s9.fb s9.fB s9.fA s9.fV s9.fP s9.fO s9.g s9.fo s9.fd) := ⟨_, rfl⟩
    refine lv_aload_n hx hb dL_law_2599 rfl (lv_at hl 4 rfl) ?_
    refine lv_aload_n hx hb dL_law_2600 rfl (lv_at hl 5 rfl) ?_
    refine lv_iload hx hb dL_law_2601 (lv_at hl 0 rfl) ?_
    refine lv_iconst (v := 1) hx hb dL_law_2603 (by decide) ?_
    refine lv_iadd hx hb dL_law_2604 ?_
    refine m_sld (v := xs (4 * q + 1)) hx hb hC.hX hC.hbl hC.hbA hS (k := 4 * q + 1) (m_add rfl rfl) (by omega) hC.hL rfl dL_law_2605 ?_
    refine lv_i2c (v := ((xs (4 * q + 1)).toUInt32 % 65536).toInt32) hx hb dL_law_2606 rfl ?_
    refine lv_aload_n hx hb dL_law_2607 rfl (lv_at hl 2 rfl) ?_
    refine lw_w (Wc := (LCh cy a s9 s9)) (Wn := (LCh cy a S9 s9)) hC (w_type_1 l G cy kS vS a.aX a.na a.tr a.sn s9.hs a.hi s9.ep s9.fc a.ob a.sc a.tx a.kd a.fs a.sd a.td s9.LN s9.n s9.x s9.f (((xs (4 * q + 1)).toUInt32 % 65536).toInt32) a.oA s9.fo hC.hl9 hx1) (vx_cwSW 3 hC.S9.2.2.2.2 gL_law_L_type rfl rfl rfl (by decide +kernel) ⟨Nat.le_of_ble_eq_true rfl, Nat.le_of_ble_eq_true rfl⟩) [0, 7, 8, 24] rfl (by decide) (SameL.cons SameA.rf (SameL.cons SameA.rf (SameL.cons SameA.rf (SameL.cons SameA.rf SameL.nil)))) (by subst eS; rfl) hP hD hS rfl hl.1 rfl (Nat.le_of_ble_eq_true rfl) ⟨hc1, hs1⟩ dL_law_2608 (fun H locs hP hD hS => ?_)
    refine lv_istore (lv' := [(6, .int 1), (5, .int (nI (4 * q))), (4, .ref a.oD), (3, .ref a.oA), (2, .ref a.am), (1, .ref a.aX), (0, .ref b)]) hx hb dL_law_2611 hl (by decide) rfl (fun ls hl => ?_)
    refine lv_aload_n hx hb dL_law_2613 rfl (lv_at hl 4 rfl) ?_
    refine lv_aload_n hx hb dL_law_2614 rfl (lv_at hl 6 rfl) ?_
    refine lv_iload hx hb dL_law_2615 (lv_at hl 1 rfl) ?_
    refine lv_iconst (v := 1) hx hb dL_law_2617 (by decide) ?_
    refine lv_iadd hx hb dL_law_2618 ?_
    refine m_sld (v := xs (4 * q + 1)) hx hb hC.hX hC.hbl hC.hbA hS (k := 4 * q + 1) (m_add rfl rfl) (by omega) hC.hL rfl dL_law_2619 ?_
    refine lv_i2c (v := ((xs (4 * q + 1)).toUInt32 % 65536).toInt32) hx hb dL_law_2620 rfl ?_
    refine lw_m (s1 := S9) (t1 := s9) (Wn := (LCh cy a S9 S9)) hC (c_X8_type_no1 l G cy a.am a.aS a.aBf a.aAs a.aSv a.aPa a.aOu a.aTx a.aCo s9.ct s9.nb s9.LN ((s9.x0).1) s9.CM s9.hs s9.th (bI (s9.x0).2) s9.ep s9.fc (((xs (4 * q + 1)).toUInt32 % 65536).toInt32) hx1) (cwV 1 hC.S9.2.2.2.2 gL_law_X8_type rfl rfl rfl (by decide +kernel) ⟨Nat.le_of_ble_eq_true rfl, Nat.le_of_ble_eq_true rfl⟩) [15] rfl (by decide) (SameR.cons SameR.nil) (by subst eS; rfl) hP hD hS rfl hl.1 rfl (Nat.le_of_ble_eq_true rfl) ⟨hc1, hs1⟩ dL_law_2621 (fun H locs hP hD hS => ?_)
    refine lv_istore (lv' := [(7, .int 0), (6, .int 1), (5, .int (nI (4 * q))), (4, .ref a.oD), (3, .ref a.oA), (2, .ref a.am), (1, .ref a.aX), (0, .ref b)]) hx hb dL_law_2624 hl (by decide) rfl (fun ls hl => ?_)
    refine lv_aload_n hx hb dL_law_2626 rfl (lv_at hl 5 rfl) ?_
    refine lw_thrown (s1 := S9) (t1 := S9) (k := 1) hC hP (by subst eS; rfl) hl.1 (Nat.le_of_ble_eq_true rfl) ⟨hc1, hs1⟩ dL_law_2627 ?_
    refine lv_iload hx hb dL_law_2630 (lv_at hl 1 rfl) ?_
    refine lv_icmp_eq (tgt := 2637) hx hb dL_law_2632 (by decide) (fun c_2632 => ?_) (fun c_2632 => ?_)
    rotate_left
    · exact absurd c_2632 (by decide)
    refine lv_iload hx hb dL_law_2637 (lv_at hl 1 rfl) ?_
    refine lv_if_ne (tgt := 2654) hx hb dL_law_2639 (by decide) (fun c_2639 => ?_) (fun c_2639 => ?_)
    rotate_left
    · exact absurd c_2639 (by decide)
    refine lv_goto (tgt := 2890) hx hb dL_law_2654 (by decide) ?_
    exact kk S9 H locs ls (LI.of (LI.mono hI (by omega)) (by subst eS; rfl) (by subst eS; rfl) (by subst eS; rfl) (by subst eS; rfl) (by subst eS; rfl) (by subst eS; rfl) (by subst eS; rfl) (by subst eS; rfl) (by subst eS; rfl) (by subst eS; rfl) (by subst eS; rfl) (by subst eS; rfl) (by subst eS; rfl) (by subst eS; rfl) (by subst eS; rfl)) hP hD hS (lv_sub hl [2, 3, 4, 5, 6, 7] rfl)

set_option maxRecDepth 100000 in
set_option maxHeartbeats 4000000 in
theorem case_49 {p : Program} {l : Launch} {e : Env} {s : State} {m : MethodId} {below : List Frame} {meth : Method} {cq : Code} {G : va_G} {cy : Nat → ClassId} {kS vS : Nat → Nat} {A : Nat → Prop} {a : LA} {b L q : Nat} {xs : Nat → Int32} {Q : State → Prop} {n0 cells slots : Nat} (hC : LC l p s m meth cq G cy kS vS A b L xs) (hq : 4 * q + 4 ≤ L) (hn0 : n0 < 1000000) (hc1 : cells + 1 ≤ room_1.cells) (hs1 : slots + 6 ≤ room_1.slots) (kk : LGo p l e s m below meth cq G cy A a b q Q (n0 + 300) (cells + 1) (slots + 6) 2890) : LGo p l e s m below meth cq G cy A a b q Q n0 cells slots 2657 := by
  intro s9 H locs ls hI hP hD hS hl
  obtain ⟨hx, hb, hml, hown, hts⟩ := id hC.S9
  have hL9 := hC.hL
  have hc0 : cells + 0 ≤ room_1.cells := Nat.le_of_succ_le hc1
  have hcn : cells ≤ room_1.cells := Nat.le_of_succ_le hc1
  have hs0 : slots + 0 ≤ room_1.slots := Nat.le_trans (Nat.le_add_right slots 6) hs1
  have hsn : slots ≤ room_1.slots := Nat.le_trans (Nat.le_add_right slots 6) hs1
  have ho := hI.1.1
  have hN0 := ho.1
  have hM0 := ho.2.1
  have hE0 := ho.2.2.1
  have hnx := hI.2.2.2.2.1
  have hct := hI.2.2.2.2.2.1
  obtain ⟨R9, hR0⟩ : ∃ R, lpC s9.f s9.LN 13 (0, false) (0, s9.gk, s9.g1, s9.g2, s9.g3) = R := ⟨_, rfl⟩
  have hL6 := hI.2.2.2.2.2.2.2.2.2.1
  have hcz := hI.2.2.2.2.2.2.2.2.2.2.1
  have hok := hI.2.2.2.2.2.2.2.2.2.2.2.1
  obtain ⟨hp9, hc13⟩ := lpC_n (f := s9.f) (L := s9.LN) 13 (0, false) (0, s9.gk, s9.g1, s9.g2, s9.g3) (Nat.zero_le _) (Nat.zero_le _)
  rw [hR0] at hp9 hc13
  by_cases hm2 : R9.1.2 = true
  · have hm := hm2
    refine lv_aload_n hx hb dL_law_2657 rfl (lv_at hl 4 rfl) ?_
    refine lv_aload_n hx hb dL_law_2658 rfl (lv_at hl 2 rfl) ?_
    obtain ⟨S8, eC⟩ : ∃ z : LwS, z = (LwS.mk s9.σ s9.υ s9.ς s9.hs (nI R9.1.1) s9.fc s9.ml s9.th s9.nx s9.ct s9.nb R9.2.1 0 s9.CM s9.ρ R9.1 s9.x0 s9.f R9.2.2.1 R9.2.2.2.1 R9.2.2.2.2.1 R9.2.2.2.2.2 s9.fb s9.fB s9.fA s9.fV s9.fP s9.fO s9.g s9.fo s9.fd) := ⟨_, rfl⟩
    refine lw_w (Wc := (LCh cy a s9 s9)) (Wn := (LCh cy a S8 s9)) hC (w_runScript_1 l G cy kS vS a.aX a.na a.tr a.sn s9.hs a.hi s9.ep s9.fc a.ob a.sc a.tx a.kd a.fs a.sd a.td s9.LN s9.n s9.x s9.f s9.gk s9.g1 s9.g2 s9.g3 a.hA s9.nx s9.ct a.ra s9.ρ R9 s9.σ s9.υ n0 a.oA s9.fo hC.hl9 hI.1 (by omega) hL6 hcz hR0 hc13 hnx hct hm) (vx_cwSW 2 hC.S9.2.2.2.2 gL_law_L_runScript rfl rfl rfl (by decide +kernel) ⟨Nat.le_of_ble_eq_true rfl, Nat.le_of_ble_eq_true rfl⟩) [0, 7, 8, 9, 10, 11, 12, 1, 2, 4, 5, 6, 24] rfl (by decide) (SameL.cons SameA.one (SameL.cons SameA.one (SameL.cons SameA.rf (SameL.cons SameA.one (SameL.cons SameA.one (SameL.cons SameA.one (SameL.cons SameA.one (SameL.cons SameA.rf (SameL.cons SameA.rf (SameL.cons SameA.rf (SameL.cons SameA.rf (SameL.cons SameA.rf (SameL.cons SameA.rf SameL.nil))))))))))))) (by subst eC; rfl) hP hD hS rfl hl.1 rfl (Nat.le_of_ble_eq_true rfl) ⟨hc1, hs1⟩ dL_law_2659 (fun H locs hP hD hS => ?_)
    refine lv_istore (lv' := [(6, .int 1), (5, .int (nI (4 * q))), (4, .ref a.oD), (3, .ref a.oA), (2, .ref a.am), (1, .ref a.aX), (0, .ref b)]) hx hb dL_law_2662 hl (by decide) rfl (fun ls hl => ?_)
    refine lv_aload_n hx hb dL_law_2664 rfl (lv_at hl 4 rfl) ?_
    refine lw_we (T9 := (Nat → Int32) × Lx × Nat) (s1 := S8) (t1 := s9) (Wn := fun u9 => LCh cy a S8 (LwS.mk s9.σ s9.υ s9.ς s9.hs (nI R9.1.1) s9.fc s9.ml 1 s9.nx s9.ct s9.nb s9.n 0 u9.2.2 s9.ρ s9.x u9.2.1 s9.f s9.gk s9.g1 s9.g2 s9.g3 s9.fb s9.fB s9.fA s9.fV s9.fP s9.fO u9.1 s9.fo s9.fd)) hC (c_X8_runScript_bad l G cy kS vS a.am a.aS a.aBf a.aAs a.aSv a.aPa a.aOu a.aTx a.aCo s9.ct s9.nb s9.LN s9.CM s9.hs s9.th s9.ep s9.fc s9.σ s9.x0 s9.f s9.g s9.fB s9.fP s9.gk s9.g1 s9.g2 s9.g3 R9 n0 hI.1 (by omega) hL6 hcz hok hct hR0 hm) (cwV 0 hC.S9.2.2.2.2 gL_law_X8_runScript rfl rfl rfl (by decide +kernel) ⟨Nat.le_of_ble_eq_true rfl, Nat.le_of_ble_eq_true rfl⟩) [15, 16, 17, 20, 22, 23] rfl (by decide) (fun u9 => (SameR.cons (SameR.cons (SameR.cons (SameR.cons (SameR.cons (SameR.cons SameR.nil))))))) (fun u9 => by subst eC; rfl) hP hD hS rfl hl.1 rfl (Nat.le_of_ble_eq_true rfl) ⟨hc1, hs1⟩ dL_law_2665 (fun u9 H locs hP hD hS => ?_)
    obtain ⟨S9, eS⟩ : ∃ z : LwS, z = (LwS.mk s9.σ s9.υ s9.ς s9.hs (nI R9.1.1) s9.fc s9.ml 1 s9.nx s9.ct s9.nb R9.2.1 0 u9.2.2 s9.ρ R9.1 u9.2.1 s9.f R9.2.2.1 R9.2.2.2.1 R9.2.2.2.2.1 R9.2.2.2.2.2 s9.fb s9.fB s9.fA s9.fV s9.fP s9.fO u9.1 s9.fo s9.fd) := ⟨_, rfl⟩
    have eW : LCh cy a S9 S9 = LCh cy a S8 (LwS.mk s9.σ s9.υ s9.ς s9.hs (nI R9.1.1) s9.fc s9.ml 1 s9.nx s9.ct s9.nb s9.n 0 u9.2.2 s9.ρ s9.x u9.2.1 s9.f s9.gk s9.g1 s9.g2 s9.g3 s9.fb s9.fB s9.fA s9.fV s9.fP s9.fO u9.1 s9.fo s9.fd) := (LCh.left (by subst eS; subst eC; rfl) (by subst eS; subst eC; rfl) (by subst eS; subst eC; rfl) (by subst eS; subst eC; rfl) (by subst eS; subst eC; rfl) (by subst eS; subst eC; rfl) (by subst eS; subst eC; rfl) (by subst eS; subst eC; rfl) (by subst eS; subst eC; rfl) (by subst eS; subst eC; rfl) (by subst eS; subst eC; rfl) (by subst eS; subst eC; rfl) (by subst eS; subst eC; rfl) (by subst eS; subst eC; rfl) (by subst eS; subst eC; rfl) (by subst eS; subst eC; rfl) (by subst eS; subst eC; rfl) (by subst eS; subst eC; rfl) (by subst eS; subst eC; rfl) (by subst eS; subst eC; rfl) (by subst eS; subst eC; rfl) (by subst eS; subst eC; rfl)).trans (LCh.right (by subst eS; rfl) (by subst eS; rfl) (by subst eS; rfl) (by subst eS; rfl) (by subst eS; rfl) (by subst eS; rfl) (by subst eS; rfl) (by subst eS; rfl) (by subst eS; rfl) (by subst eS; rfl) (by subst eS; rfl) (by subst eS; rfl) (by subst eS; rfl) (by subst eS; rfl) (by subst eS; rfl) (by subst eS; rfl) (by subst eS; rfl))
    rw [← eW] at hP hD
    refine lv_istore (lv' := [(7, .int 0), (6, .int 1), (5, .int (nI (4 * q))), (4, .ref a.oD), (3, .ref a.oA), (2, .ref a.am), (1, .ref a.aX), (0, .ref b)]) hx hb dL_law_2668 hl (by decide) rfl (fun ls hl => ?_)
    refine lv_aload_n hx hb dL_law_2670 rfl (lv_at hl 5 rfl) ?_
    refine lw_thrown (s1 := S9) (t1 := S9) (k := 1) hC hP (by subst eS; rfl) hl.1 (Nat.le_of_ble_eq_true rfl) ⟨hc1, hs1⟩ dL_law_2671 ?_
    refine lv_iload hx hb dL_law_2674 (lv_at hl 1 rfl) ?_
    refine lv_icmp_eq (tgt := 2681) hx hb dL_law_2676 (by decide) (fun c_2676 => ?_) (fun c_2676 => ?_)
    rotate_left
    · exact absurd c_2676 (by decide)
    refine lv_iload hx hb dL_law_2681 (lv_at hl 1 rfl) ?_
    refine lv_if_ne (tgt := 2698) hx hb dL_law_2683 (by decide) (fun c_2683 => ?_) (fun c_2683 => ?_)
    rotate_left
    · exact absurd c_2683 (by decide)
    refine lv_goto (tgt := 2890) hx hb dL_law_2698 (by decide) ?_
    exact kk S9 H locs ls (LI.of ((LI.bad hI (e := R9.1.1) (by omega)).mono (by omega)) (by subst eS; rfl) (by subst eS; rfl) (by subst eS; rfl) (by subst eS; rfl) (by subst eS; rfl) (by subst eS; rfl) (by subst eS; rfl) (by subst eS; rfl) (by subst eS; rfl) (by subst eS; rfl) (by subst eS; rfl) (by subst eS; rfl) (by subst eS; rfl) (by subst eS; rfl) (by subst eS; rfl)) hP hD hS (lv_sub hl [2, 3, 4, 5, 6, 7] rfl)
  · have hm : R9.1.2 = false := by simpa using hm2
    obtain ⟨h9, h8⟩ := rnC_in (g := R9.2) R9.2.1 0 n0 s9.σ hI.1 (by omega)
    rcases hR8 : rnC R9.2 0 R9.2.1 s9.σ with ⟨τ9, _ | i8⟩
    · rw [hR8] at h9
      refine lv_aload_n hx hb dL_law_2657 rfl (lv_at hl 4 rfl) ?_
      refine lv_aload_n hx hb dL_law_2658 rfl (lv_at hl 2 rfl) ?_
      obtain ⟨S8, eC⟩ : ∃ z : LwS, z = (LwS.mk τ9 τ9 s9.ς s9.hs s9.ep s9.fc s9.ml s9.th ((s9.nx + 1) % 8) (kInc s9.ct) s9.nb R9.2.1 0 s9.CM (updR s9.ρ s9.nx s9.σ) R9.1 s9.x0 s9.f R9.2.2.1 R9.2.2.2.1 R9.2.2.2.2.1 R9.2.2.2.2.2 s9.fb s9.fB s9.fA s9.fV s9.fP s9.fO s9.g (fun _ => (nI R9.2.1).toInt64) s9.fd) := ⟨_, rfl⟩
      refine lw_w (Wc := (LCh cy a s9 s9)) (Wn := (LCh cy a S8 s9)) hC (w_runScript_ok l G cy kS vS a.aX a.na a.tr a.sn s9.hs a.hi s9.ep s9.fc a.ob a.sc a.tx a.kd a.fs a.sd a.td s9.LN s9.n s9.x s9.f s9.gk s9.g1 s9.g2 s9.g3 a.hA s9.nx s9.ct a.ra s9.ρ R9 s9.σ s9.υ n0 τ9 a.oA s9.fo hI.1 (by omega) hL6 hcz hR0 hc13 hnx hct hm hR8) (vx_cwSW 2 hC.S9.2.2.2.2 gL_law_L_runScript rfl rfl rfl (by decide +kernel) ⟨Nat.le_of_ble_eq_true rfl, Nat.le_of_ble_eq_true rfl⟩) [0, 7, 8, 9, 10, 11, 12, 1, 2, 4, 5, 6, 24] rfl (by decide) (SameL.cons SameA.rf (SameL.cons SameA.one (SameL.cons SameA.rf (SameL.cons SameA.one (SameL.cons SameA.one (SameL.cons SameA.one (SameL.cons SameA.one (SameL.cons SameA.st (SameL.cons SameA.st (SameL.cons SameA.one (SameL.cons SameA.rf (SameL.cons SameA.ring (SameL.cons SameA.one SameL.nil))))))))))))) (by subst eC; rfl) hP hD hS rfl hl.1 rfl (Nat.le_of_ble_eq_true rfl) ⟨hc0, hs0⟩ dL_law_2659 (fun H locs hP hD hS => ?_)
      refine lv_istore (lv' := [(6, .int 0), (5, .int (nI (4 * q))), (4, .ref a.oD), (3, .ref a.oA), (2, .ref a.am), (1, .ref a.aX), (0, .ref b)]) hx hb dL_law_2662 hl (by decide) rfl (fun ls hl => ?_)
      refine lv_aload_n hx hb dL_law_2664 rfl (lv_at hl 4 rfl) ?_
      refine lw_we (T9 := (Nat → Int32) × Lx × Nat) (s1 := S8) (t1 := s9) (Wn := fun u9 => LCh cy a S8 (LwS.mk τ9 s9.υ s9.ς s9.hs s9.ep s9.fc s9.ml 0 s9.nx (kInc s9.ct) s9.nb s9.n 0 u9.2.2 s9.ρ s9.x u9.2.1 s9.f s9.gk s9.g1 s9.g2 s9.g3 s9.fb (encS s9.σ) s9.fA s9.fV (pastP s9.ct s9.fP (encS s9.σ)) s9.fO u9.1 s9.fo s9.fd)) hC (c_X8_runScript_ok l G cy kS vS a.am a.aS a.aBf a.aAs a.aSv a.aPa a.aOu a.aTx a.aCo s9.ct s9.nb s9.LN s9.CM s9.hs s9.th s9.ep s9.fc s9.σ s9.x0 s9.f s9.g s9.fB s9.fP s9.gk s9.g1 s9.g2 s9.g3 R9 n0 τ9 hI.1 (by omega) hL6 hcz hok hct hR0 hm hR8) (cwV 0 hC.S9.2.2.2.2 gL_law_X8_runScript rfl rfl rfl (by decide +kernel) ⟨Nat.le_of_ble_eq_true rfl, Nat.le_of_ble_eq_true rfl⟩) [15, 16, 17, 20, 22, 23] rfl (by decide) (fun u9 => (SameR.cons (SameR.cons (SameR.cons (SameR.cons (SameR.cons (SameR.cons SameR.nil))))))) (fun u9 => by subst eC; rfl) hP hD hS rfl hl.1 rfl (Nat.le_of_ble_eq_true rfl) ⟨hcn, hsn⟩ dL_law_2665 (fun u9 H locs hP hD hS => ?_)
      obtain ⟨S9, eS⟩ : ∃ z : LwS, z = (LwS.mk τ9 τ9 s9.ς s9.hs s9.ep s9.fc s9.ml 0 ((s9.nx + 1) % 8) (kInc s9.ct) s9.nb R9.2.1 0 u9.2.2 (updR s9.ρ s9.nx s9.σ) R9.1 u9.2.1 s9.f R9.2.2.1 R9.2.2.2.1 R9.2.2.2.2.1 R9.2.2.2.2.2 s9.fb (encS s9.σ) s9.fA s9.fV (pastP s9.ct s9.fP (encS s9.σ)) s9.fO u9.1 (fun _ => (nI R9.2.1).toInt64) s9.fd) := ⟨_, rfl⟩
      have eW : LCh cy a S9 S9 = LCh cy a S8 (LwS.mk τ9 s9.υ s9.ς s9.hs s9.ep s9.fc s9.ml 0 s9.nx (kInc s9.ct) s9.nb s9.n 0 u9.2.2 s9.ρ s9.x u9.2.1 s9.f s9.gk s9.g1 s9.g2 s9.g3 s9.fb (encS s9.σ) s9.fA s9.fV (pastP s9.ct s9.fP (encS s9.σ)) s9.fO u9.1 s9.fo s9.fd) := (LCh.left (by subst eS; subst eC; rfl) (by subst eS; subst eC; rfl) (by subst eS; subst eC; rfl) (by subst eS; subst eC; rfl) (by subst eS; subst eC; rfl) (by subst eS; subst eC; rfl) (by subst eS; subst eC; rfl) (by subst eS; subst eC; rfl) (by subst eS; subst eC; rfl) (by subst eS; subst eC; rfl) (by subst eS; subst eC; rfl) (by subst eS; subst eC; rfl) (by subst eS; subst eC; rfl) (by subst eS; subst eC; rfl) (by subst eS; subst eC; rfl) (by subst eS; subst eC; rfl) (by subst eS; subst eC; rfl) (by subst eS; subst eC; rfl) (by subst eS; subst eC; rfl) (by subst eS; subst eC; rfl) (by subst eS; subst eC; rfl) (by subst eS; subst eC; rfl)).trans (LCh.right (by subst eS; rfl) (by subst eS; rfl) (by subst eS; rfl) (by subst eS; rfl) (by subst eS; rfl) (by subst eS; rfl) (by subst eS; rfl) (by subst eS; rfl) (by subst eS; rfl) (by subst eS; rfl) (by subst eS; rfl) (by subst eS; rfl) (by subst eS; rfl) (by subst eS; rfl) (by subst eS; rfl) (by subst eS; rfl) (by subst eS; rfl))
      rw [← eW] at hP hD
      refine lv_istore (lv' := [(7, .int (nI R9.2.1)), (6, .int 0), (5, .int (nI (4 * q))), (4, .ref a.oD), (3, .ref a.oA), (2, .ref a.am), (1, .ref a.aX), (0, .ref b)]) hx hb dL_law_2668 hl (by decide) rfl (fun ls hl => ?_)
      refine lv_aload_n hx hb dL_law_2670 rfl (lv_at hl 5 rfl) ?_
      refine lw_thrown (s1 := S9) (t1 := S9) (k := 0) hC hP (by subst eS; rfl) hl.1 (Nat.le_of_ble_eq_true rfl) ⟨hcn, hsn⟩ dL_law_2671 ?_
      refine lv_iload hx hb dL_law_2674 (lv_at hl 1 rfl) ?_
      refine lv_icmp_eq (tgt := 2681) hx hb dL_law_2676 (by decide) (fun c_2676 => ?_) (fun c_2676 => ?_)
      rotate_left
      · exact absurd c_2676 (by decide)
      refine lv_iload hx hb dL_law_2681 (lv_at hl 1 rfl) ?_
      refine lv_if_ne (tgt := 2698) hx hb dL_law_2683 (by decide) (fun c_2683 => ?_) (fun c_2683 => ?_)
      · exact absurd c_2683 (by decide)
      refine lv_aload_n hx hb dL_law_2686 rfl (lv_at hl 4 rfl) ?_
      refine lv_iconst (v := 0) hx hb dL_law_2687 (by decide) ?_
      refine lw_ldL (s1 := S9) (t1 := S9) (x := (nI R9.2.1).toInt64) hC hP (by subst eS; rfl) dL_law_2688 ?_
      refine lv_iload hx hb dL_law_2689 (lv_at hl 0 rfl) ?_
      refine lv_i2l hx hb dL_law_2691 rfl ?_
      refine m_lcmp0 hx hb rfl dL_law_2692 ?_
      refine lv_if_eq (tgt := 2698) hx hb dL_law_2693 (by decide) (fun c_2693 => ?_) (fun c_2693 => ?_)
      rotate_left
      · exact absurd c_2693 (by decide)
      refine lv_goto (tgt := 2890) hx hb dL_law_2698 (by decide) ?_
      refine W.widen (k := cells + 1) (n := slots + 6) (by omega) (by omega) ?_
      exact kk S9 H locs ls (LI.of (LI.ran (LI.push hI (h9.mono (by omega)))) (by subst eS; rfl) (by subst eS; rfl) (by subst eS; rfl) (by subst eS; rfl) (by subst eS; rfl) (by subst eS; rfl) (by subst eS; rfl) (by subst eS; rfl) (by subst eS; rfl) (by subst eS; rfl) (by subst eS; rfl) (by subst eS; rfl) (by subst eS; rfl) (by subst eS; rfl) (by subst eS; rfl)) hP hD hS (lv_sub hl [2, 3, 4, 5, 6, 7] rfl)
    · have h7 := h8 i8 (by rw [hR8])
      refine lv_aload_n hx hb dL_law_2657 rfl (lv_at hl 4 rfl) ?_
      refine lv_aload_n hx hb dL_law_2658 rfl (lv_at hl 2 rfl) ?_
      obtain ⟨S8, eC⟩ : ∃ z : LwS, z = (LwS.mk s9.σ τ9 s9.ς s9.hs s9.ep (nI i8) s9.ml s9.th s9.nx s9.ct s9.nb R9.2.1 0 s9.CM s9.ρ R9.1 s9.x0 s9.f R9.2.2.1 R9.2.2.2.1 R9.2.2.2.2.1 R9.2.2.2.2.2 s9.fb s9.fB s9.fA s9.fV s9.fP s9.fO s9.g s9.fo s9.fd) := ⟨_, rfl⟩
      refine lw_w (Wc := (LCh cy a s9 s9)) (Wn := (LCh cy a S8 s9)) hC (w_runScript_2 l G cy kS vS a.aX a.na a.tr a.sn s9.hs a.hi s9.ep s9.fc a.ob a.sc a.tx a.kd a.fs a.sd a.td s9.LN s9.n s9.x s9.f s9.gk s9.g1 s9.g2 s9.g3 a.hA s9.nx s9.ct a.ra s9.ρ R9 s9.σ s9.υ n0 τ9 i8 a.oA s9.fo hC.hl9 hI.1 (by omega) hL6 hcz hR0 hc13 hnx hct hm hR8) (vx_cwSW 2 hC.S9.2.2.2.2 gL_law_L_runScript rfl rfl rfl (by decide +kernel) ⟨Nat.le_of_ble_eq_true rfl, Nat.le_of_ble_eq_true rfl⟩) [0, 7, 8, 9, 10, 11, 12, 1, 2, 4, 5, 6, 24] rfl (by decide) (SameL.cons SameA.one (SameL.cons SameA.one (SameL.cons SameA.rf (SameL.cons SameA.one (SameL.cons SameA.one (SameL.cons SameA.one (SameL.cons SameA.one (SameL.cons SameA.rf (SameL.cons SameA.st (SameL.cons SameA.rf (SameL.cons SameA.rf (SameL.cons SameA.rf (SameL.cons SameA.rf SameL.nil))))))))))))) (by subst eC; rfl) hP hD hS rfl hl.1 rfl (Nat.le_of_ble_eq_true rfl) ⟨hc1, hs1⟩ dL_law_2659 (fun H locs hP hD hS => ?_)
      refine lv_istore (lv' := [(6, .int 2), (5, .int (nI (4 * q))), (4, .ref a.oD), (3, .ref a.oA), (2, .ref a.am), (1, .ref a.aX), (0, .ref b)]) hx hb dL_law_2662 hl (by decide) rfl (fun ls hl => ?_)
      refine lv_aload_n hx hb dL_law_2664 rfl (lv_at hl 4 rfl) ?_
      refine lw_we (T9 := (Nat → Int32) × Lx × Nat) (s1 := S8) (t1 := s9) (Wn := fun u9 => LCh cy a S8 (LwS.mk s9.σ s9.υ s9.ς s9.hs s9.ep (nI i8) s9.ml 2 s9.nx s9.ct s9.nb s9.n 0 u9.2.2 s9.ρ s9.x u9.2.1 s9.f s9.gk s9.g1 s9.g2 s9.g3 s9.fb (encS s9.σ) s9.fA s9.fV s9.fP s9.fO u9.1 s9.fo s9.fd)) hC (c_X8_runScript_no l G cy kS vS a.am a.aS a.aBf a.aAs a.aSv a.aPa a.aOu a.aTx a.aCo s9.ct s9.nb s9.LN s9.CM s9.hs s9.th s9.ep s9.fc s9.σ s9.x0 s9.f s9.g s9.fB s9.fP s9.gk s9.g1 s9.g2 s9.g3 R9 n0 τ9 i8 hI.1 (by omega) hL6 hcz hok hct hR0 hm hR8) (cwV 0 hC.S9.2.2.2.2 gL_law_X8_runScript rfl rfl rfl (by decide +kernel) ⟨Nat.le_of_ble_eq_true rfl, Nat.le_of_ble_eq_true rfl⟩) [15, 16, 17, 20, 22, 23] rfl (by decide) (fun u9 => (SameR.cons (SameR.cons (SameR.cons (SameR.cons (SameR.cons (SameR.cons SameR.nil))))))) (fun u9 => by subst eC; rfl) hP hD hS rfl hl.1 rfl (Nat.le_of_ble_eq_true rfl) ⟨hc1, hs1⟩ dL_law_2665 (fun u9 H locs hP hD hS => ?_)
      obtain ⟨S9, eS⟩ : ∃ z : LwS, z = (LwS.mk s9.σ τ9 s9.ς s9.hs s9.ep (nI i8) s9.ml 2 s9.nx s9.ct s9.nb R9.2.1 0 u9.2.2 s9.ρ R9.1 u9.2.1 s9.f R9.2.2.1 R9.2.2.2.1 R9.2.2.2.2.1 R9.2.2.2.2.2 s9.fb (encS s9.σ) s9.fA s9.fV s9.fP s9.fO u9.1 s9.fo s9.fd) := ⟨_, rfl⟩
      have eW : LCh cy a S9 S9 = LCh cy a S8 (LwS.mk s9.σ s9.υ s9.ς s9.hs s9.ep (nI i8) s9.ml 2 s9.nx s9.ct s9.nb s9.n 0 u9.2.2 s9.ρ s9.x u9.2.1 s9.f s9.gk s9.g1 s9.g2 s9.g3 s9.fb (encS s9.σ) s9.fA s9.fV s9.fP s9.fO u9.1 s9.fo s9.fd) := (LCh.left (by subst eS; subst eC; rfl) (by subst eS; subst eC; rfl) (by subst eS; subst eC; rfl) (by subst eS; subst eC; rfl) (by subst eS; subst eC; rfl) (by subst eS; subst eC; rfl) (by subst eS; subst eC; rfl) (by subst eS; subst eC; rfl) (by subst eS; subst eC; rfl) (by subst eS; subst eC; rfl) (by subst eS; subst eC; rfl) (by subst eS; subst eC; rfl) (by subst eS; subst eC; rfl) (by subst eS; subst eC; rfl) (by subst eS; subst eC; rfl) (by subst eS; subst eC; rfl) (by subst eS; subst eC; rfl) (by subst eS; subst eC; rfl) (by subst eS; subst eC; rfl) (by subst eS; subst eC; rfl) (by subst eS; subst eC; rfl) (by subst eS; subst eC; rfl)).trans (LCh.right (by subst eS; rfl) (by subst eS; rfl) (by subst eS; rfl) (by subst eS; rfl) (by subst eS; rfl) (by subst eS; rfl) (by subst eS; rfl) (by subst eS; rfl) (by subst eS; rfl) (by subst eS; rfl) (by subst eS; rfl) (by subst eS; rfl) (by subst eS; rfl) (by subst eS; rfl) (by subst eS; rfl) (by subst eS; rfl) (by subst eS; rfl))
      rw [← eW] at hP hD
      refine lv_istore (lv' := [(7, .int 0), (6, .int 2), (5, .int (nI (4 * q))), (4, .ref a.oD), (3, .ref a.oA), (2, .ref a.am), (1, .ref a.aX), (0, .ref b)]) hx hb dL_law_2668 hl (by decide) rfl (fun ls hl => ?_)
      refine lv_aload_n hx hb dL_law_2670 rfl (lv_at hl 5 rfl) ?_
      refine lw_thrown (s1 := S9) (t1 := S9) (k := 2) hC hP (by subst eS; rfl) hl.1 (Nat.le_of_ble_eq_true rfl) ⟨hc1, hs1⟩ dL_law_2671 ?_
      refine lv_iload hx hb dL_law_2674 (lv_at hl 1 rfl) ?_
      refine lv_icmp_eq (tgt := 2681) hx hb dL_law_2676 (by decide) (fun c_2676 => ?_) (fun c_2676 => ?_)
      rotate_left
      · exact absurd c_2676 (by decide)
      refine lv_iload hx hb dL_law_2681 (lv_at hl 1 rfl) ?_
      refine lv_if_ne (tgt := 2698) hx hb dL_law_2683 (by decide) (fun c_2683 => ?_) (fun c_2683 => ?_)
      rotate_left
      · exact absurd c_2683 (by decide)
      refine lv_goto (tgt := 2890) hx hb dL_law_2698 (by decide) ?_
      exact kk S9 H locs ls (LI.of ((LI.failed hI (e := i8) (by omega)).mono (by omega)) (by subst eS; rfl) (by subst eS; rfl) (by subst eS; rfl) (by subst eS; rfl) (by subst eS; rfl) (by subst eS; rfl) (by subst eS; rfl) (by subst eS; rfl) (by subst eS; rfl) (by subst eS; rfl) (by subst eS; rfl) (by subst eS; rfl) (by subst eS; rfl) (by subst eS; rfl) (by subst eS; rfl)) hP hD hS (lv_sub hl [2, 3, 4, 5, 6, 7] rfl)

set_option maxRecDepth 100000 in
set_option maxHeartbeats 4000000 in
theorem case_50 {p : Program} {l : Launch} {e : Env} {s : State} {m : MethodId} {below : List Frame} {meth : Method} {cq : Code} {G : va_G} {cy : Nat → ClassId} {kS vS : Nat → Nat} {A : Nat → Prop} {a : LA} {b L q : Nat} {xs : Nat → Int32} {Q : State → Prop} {n0 cells slots : Nat} (hC : LC l p s m meth cq G cy kS vS A b L xs) (hq : 4 * q + 4 ≤ L) (hn0 : n0 < 1000000) (hc1 : cells + 1 ≤ room_1.cells) (hs1 : slots + 6 ≤ room_1.slots) (kk : LGo p l e s m below meth cq G cy A a b q Q (n0 + 300) (cells + 1) (slots + 6) 2890) : LGo p l e s m below meth cq G cy A a b q Q n0 cells slots 2701 := by
  intro s9 H locs ls hI hP hD hS hl
  obtain ⟨hx, hb, hml, hown, hts⟩ := id hC.S9
  have hL9 := hC.hL
  have hc0 : cells + 0 ≤ room_1.cells := Nat.le_of_succ_le hc1
  have hcn : cells ≤ room_1.cells := Nat.le_of_succ_le hc1
  have hs0 : slots + 0 ≤ room_1.slots := Nat.le_trans (Nat.le_add_right slots 6) hs1
  have hsn : slots ≤ room_1.slots := Nat.le_trans (Nat.le_add_right slots 6) hs1
  have ho := hI.1.1
  have hN0 := ho.1
  have hM0 := ho.2.1
  have hE0 := ho.2.2.1
  have hnx := hI.2.2.2.2.1
  have hct := hI.2.2.2.2.2.1
  rcases hI.2.2.2.2.2.2.2.1 with h1 | ⟨j, hj, h1⟩
  · obtain ⟨S9, eS⟩ : ∃ z : LwS, z = (LwS.mk s9.σ s9.υ s9.ς s9.hs s9.ep s9.fc s9.ml 1 s9.nx s9.ct s9.nb s9.n s9.LN s9.CM s9.ρ s9.x s9.x0 s9.f s9.gk s9.g1 s9.g2 s9.g3 s9.fb s9.fB s9.fA s9.fV s9.fP s9.fO s9.g s9.fo s9.fd) := ⟨_, rfl⟩
    refine lv_aload_n hx hb dL_law_2701 rfl (lv_at hl 4 rfl) ?_
    refine lv_aload_n hx hb dL_law_2702 rfl (lv_at hl 2 rfl) ?_
    refine lw_w (Wc := (LCh cy a s9 s9)) (Wn := (LCh cy a S9 s9)) hC (w_errorPosition_t l G cy kS vS a.aX a.na a.tr a.sn s9.hs a.hi a.sc s9.ep s9.fc a.ob s9.σ a.oA s9.fo hC.hl9 hI.1.1 h1) (vx_cwSW 2 hC.S9.2.2.2.2 gL_law_L_errorPosition rfl rfl rfl (by decide +kernel) ⟨Nat.le_of_ble_eq_true rfl, Nat.le_of_ble_eq_true rfl⟩) [0, 1, 24] rfl (by decide) (SameL.cons SameA.rf (SameL.cons SameA.rf (SameL.cons SameA.rf SameL.nil))) (by subst eS; rfl) hP hD hS rfl hl.1 rfl (Nat.le_of_ble_eq_true rfl) ⟨hc1, hs1⟩ dL_law_2703 (fun H locs hP hD hS => ?_)
    refine lv_istore (lv' := [(6, .int 1), (5, .int (nI (4 * q))), (4, .ref a.oD), (3, .ref a.oA), (2, .ref a.am), (1, .ref a.aX), (0, .ref b)]) hx hb dL_law_2706 hl (by decide) rfl (fun ls hl => ?_)
    refine lv_aload_n hx hb dL_law_2708 rfl (lv_at hl 4 rfl) ?_
    refine lw_m (s1 := S9) (t1 := s9) (Wn := (LCh cy a S9 S9)) hC (c_X8_errorPosition_no l G cy a.am a.aS a.aBf a.aAs a.aSv a.aPa a.aOu a.aTx a.aCo s9.ct s9.nb s9.LN ((s9.x0).1) s9.CM s9.hs s9.th (bI (s9.x0).2) s9.ep s9.fc s9.σ (by rw [h1]; decide)) (cwV 0 hC.S9.2.2.2.2 gL_law_X8_errorPosition rfl rfl rfl (by decide +kernel) ⟨Nat.le_of_ble_eq_true rfl, Nat.le_of_ble_eq_true rfl⟩) [15, 16] rfl (by decide) (SameR.cons (SameR.cons SameR.nil)) (by subst eS; rfl) hP hD hS rfl hl.1 rfl (Nat.le_of_ble_eq_true rfl) ⟨hc1, hs1⟩ dL_law_2709 (fun H locs hP hD hS => ?_)
    refine lv_istore (lv' := [(7, .int 0), (6, .int 1), (5, .int (nI (4 * q))), (4, .ref a.oD), (3, .ref a.oA), (2, .ref a.am), (1, .ref a.aX), (0, .ref b)]) hx hb dL_law_2712 hl (by decide) rfl (fun ls hl => ?_)
    refine lv_aload_n hx hb dL_law_2714 rfl (lv_at hl 5 rfl) ?_
    refine lw_thrown (s1 := S9) (t1 := S9) (k := 1) hC hP (by subst eS; rfl) hl.1 (Nat.le_of_ble_eq_true rfl) ⟨hc1, hs1⟩ dL_law_2715 ?_
    refine lv_iload hx hb dL_law_2718 (lv_at hl 1 rfl) ?_
    refine lv_icmp_eq (tgt := 2725) hx hb dL_law_2720 (by decide) (fun c_2720 => ?_) (fun c_2720 => ?_)
    rotate_left
    · exact absurd c_2720 (by decide)
    refine lv_iload hx hb dL_law_2725 (lv_at hl 1 rfl) ?_
    refine lv_if_ne (tgt := 2742) hx hb dL_law_2727 (by decide) (fun c_2727 => ?_) (fun c_2727 => ?_)
    rotate_left
    · exact absurd c_2727 (by decide)
    refine lv_goto (tgt := 2890) hx hb dL_law_2742 (by decide) ?_
    exact kk S9 H locs ls (LI.of (LI.mono hI (by omega)) (by subst eS; rfl) (by subst eS; rfl) (by subst eS; rfl) (by subst eS; rfl) (by subst eS; rfl) (by subst eS; rfl) (by subst eS; rfl) (by subst eS; rfl) (by subst eS; rfl) (by subst eS; rfl) (by subst eS; rfl) (by subst eS; rfl) (by subst eS; rfl) (by subst eS; rfl) (by subst eS; rfl)) hP hD hS (lv_sub hl [2, 3, 4, 5, 6, 7] rfl)
  · have h2 : ¬ s9.ep < 0 := by rw [h1, Int32.lt_iff_toInt_lt, nI_toInt (by omega), Int32.toInt_zero]; omega
    have h3 : ¬ s9.ep = -1 := fun z => h2 (by rw [z]; decide)
    obtain ⟨S9, eS⟩ : ∃ z : LwS, z = (LwS.mk s9.σ s9.υ s9.ς s9.hs s9.ep s9.fc s9.ml 0 s9.nx s9.ct s9.nb s9.n s9.LN s9.CM s9.ρ s9.x s9.x0 s9.f s9.gk s9.g1 s9.g2 s9.g3 s9.fb s9.fB s9.fA s9.fV s9.fP s9.fO s9.g (fun _ => (s9.ep).toInt64) s9.fd) := ⟨_, rfl⟩
    refine lv_aload_n hx hb dL_law_2701 rfl (lv_at hl 4 rfl) ?_
    refine lv_aload_n hx hb dL_law_2702 rfl (lv_at hl 2 rfl) ?_
    refine lw_w (Wc := (LCh cy a s9 s9)) (Wn := (LCh cy a S9 s9)) hC (w_errorPosition_ok l G cy kS vS a.aX a.na a.tr a.sn s9.hs a.hi a.sc s9.ep s9.fc a.ob s9.σ a.oA s9.fo hI.1.1 h3) (vx_cwSW 2 hC.S9.2.2.2.2 gL_law_L_errorPosition rfl rfl rfl (by decide +kernel) ⟨Nat.le_of_ble_eq_true rfl, Nat.le_of_ble_eq_true rfl⟩) [0, 1, 24] rfl (by decide) (SameL.cons SameA.rf (SameL.cons SameA.rf (SameL.cons SameA.one SameL.nil))) (by subst eS; rfl) hP hD hS rfl hl.1 rfl (Nat.le_of_ble_eq_true rfl) ⟨hc0, hs0⟩ dL_law_2703 (fun H locs hP hD hS => ?_)
    refine lv_istore (lv' := [(6, .int 0), (5, .int (nI (4 * q))), (4, .ref a.oD), (3, .ref a.oA), (2, .ref a.am), (1, .ref a.aX), (0, .ref b)]) hx hb dL_law_2706 hl (by decide) rfl (fun ls hl => ?_)
    refine lv_aload_n hx hb dL_law_2708 rfl (lv_at hl 4 rfl) ?_
    refine lw_m (s1 := S9) (t1 := s9) (Wn := (LCh cy a S9 S9)) hC (c_X8_errorPosition_ok l G cy a.am a.aS a.aBf a.aAs a.aSv a.aPa a.aOu a.aTx a.aCo s9.ct s9.nb s9.LN ((s9.x0).1) s9.CM s9.hs s9.th (bI (s9.x0).2) s9.ep s9.fc s9.σ h2) (cwV 0 hC.S9.2.2.2.2 gL_law_X8_errorPosition rfl rfl rfl (by decide +kernel) ⟨Nat.le_of_ble_eq_true rfl, Nat.le_of_ble_eq_true rfl⟩) [15, 16] rfl (by decide) (SameR.cons (SameR.cons SameR.nil)) (by subst eS; rfl) hP hD hS rfl hl.1 rfl (Nat.le_of_ble_eq_true rfl) ⟨hcn, hsn⟩ dL_law_2709 (fun H locs hP hD hS => ?_)
    refine lv_istore (lv' := [(7, .int s9.ep), (6, .int 0), (5, .int (nI (4 * q))), (4, .ref a.oD), (3, .ref a.oA), (2, .ref a.am), (1, .ref a.aX), (0, .ref b)]) hx hb dL_law_2712 hl (by decide) rfl (fun ls hl => ?_)
    refine lv_aload_n hx hb dL_law_2714 rfl (lv_at hl 5 rfl) ?_
    refine lw_thrown (s1 := S9) (t1 := S9) (k := 0) hC hP (by subst eS; rfl) hl.1 (Nat.le_of_ble_eq_true rfl) ⟨hcn, hsn⟩ dL_law_2715 ?_
    refine lv_iload hx hb dL_law_2718 (lv_at hl 1 rfl) ?_
    refine lv_icmp_eq (tgt := 2725) hx hb dL_law_2720 (by decide) (fun c_2720 => ?_) (fun c_2720 => ?_)
    rotate_left
    · exact absurd c_2720 (by decide)
    refine lv_iload hx hb dL_law_2725 (lv_at hl 1 rfl) ?_
    refine lv_if_ne (tgt := 2742) hx hb dL_law_2727 (by decide) (fun c_2727 => ?_) (fun c_2727 => ?_)
    · exact absurd c_2727 (by decide)
    refine lv_aload_n hx hb dL_law_2730 rfl (lv_at hl 4 rfl) ?_
    refine lv_iconst (v := 0) hx hb dL_law_2731 (by decide) ?_
    refine lw_ldL (s1 := S9) (t1 := S9) (x := (s9.ep).toInt64) hC hP (by subst eS; rfl) dL_law_2732 ?_
    refine lv_iload hx hb dL_law_2733 (lv_at hl 0 rfl) ?_
    refine lv_i2l hx hb dL_law_2735 rfl ?_
    refine m_lcmp0 hx hb rfl dL_law_2736 ?_
    refine lv_if_eq (tgt := 2742) hx hb dL_law_2737 (by decide) (fun c_2737 => ?_) (fun c_2737 => ?_)
    rotate_left
    · exact absurd c_2737 (by decide)
    refine lv_goto (tgt := 2890) hx hb dL_law_2742 (by decide) ?_
    refine W.widen (k := cells + 1) (n := slots + 6) (by omega) (by omega) ?_
    exact kk S9 H locs ls (LI.of (LI.mono hI (by omega)) (by subst eS; rfl) (by subst eS; rfl) (by subst eS; rfl) (by subst eS; rfl) (by subst eS; rfl) (by subst eS; rfl) (by subst eS; rfl) (by subst eS; rfl) (by subst eS; rfl) (by subst eS; rfl) (by subst eS; rfl) (by subst eS; rfl) (by subst eS; rfl) (by subst eS; rfl) (by subst eS; rfl)) hP hD hS (lv_sub hl [2, 3, 4, 5, 6, 7] rfl)

set_option maxRecDepth 100000 in
set_option maxHeartbeats 4000000 in
theorem case_51 {p : Program} {l : Launch} {e : Env} {s : State} {m : MethodId} {below : List Frame} {meth : Method} {cq : Code} {G : va_G} {cy : Nat → ClassId} {kS vS : Nat → Nat} {A : Nat → Prop} {a : LA} {b L q : Nat} {xs : Nat → Int32} {Q : State → Prop} {n0 cells slots : Nat} (hC : LC l p s m meth cq G cy kS vS A b L xs) (hq : 4 * q + 4 ≤ L) (hn0 : n0 < 1000000) (hc1 : cells + 1 ≤ room_1.cells) (hs1 : slots + 6 ≤ room_1.slots) (kk : LGo p l e s m below meth cq G cy A a b q Q (n0 + 300) (cells + 1) (slots + 6) 2890) : LGo p l e s m below meth cq G cy A a b q Q n0 cells slots 2745 := by
  intro s9 H locs ls hI hP hD hS hl
  obtain ⟨hx, hb, hml, hown, hts⟩ := id hC.S9
  have hL9 := hC.hL
  have hc0 : cells + 0 ≤ room_1.cells := Nat.le_of_succ_le hc1
  have hcn : cells ≤ room_1.cells := Nat.le_of_succ_le hc1
  have hs0 : slots + 0 ≤ room_1.slots := Nat.le_trans (Nat.le_add_right slots 6) hs1
  have hsn : slots ≤ room_1.slots := Nat.le_trans (Nat.le_add_right slots 6) hs1
  have ho := hI.1.1
  have hN0 := ho.1
  have hM0 := ho.2.1
  have hE0 := ho.2.2.1
  have hnx := hI.2.2.2.2.1
  have hct := hI.2.2.2.2.2.1
  rcases hI.2.2.2.2.2.2.2.2.1 with h1 | ⟨j, hj, h1⟩
  · obtain ⟨S9, eS⟩ : ∃ z : LwS, z = (LwS.mk s9.σ s9.υ s9.ς s9.hs s9.ep s9.fc s9.ml 1 s9.nx s9.ct s9.nb s9.n s9.LN s9.CM s9.ρ s9.x s9.x0 s9.f s9.gk s9.g1 s9.g2 s9.g3 s9.fb s9.fB s9.fA s9.fV s9.fP s9.fO s9.g s9.fo s9.fd) := ⟨_, rfl⟩
    refine lv_aload_n hx hb dL_law_2745 rfl (lv_at hl 4 rfl) ?_
    refine lv_aload_n hx hb dL_law_2746 rfl (lv_at hl 2 rfl) ?_
    refine lw_w (Wc := (LCh cy a s9 s9)) (Wn := (LCh cy a S9 s9)) hC (w_failedCommand_t l G cy kS vS a.aX a.na a.tr a.sn s9.hs a.hi a.sc s9.ep s9.fc a.ob s9.σ a.oA s9.fo hC.hl9 hI.1.1 h1) (vx_cwSW 2 hC.S9.2.2.2.2 gL_law_L_failedCommand rfl rfl rfl (by decide +kernel) ⟨Nat.le_of_ble_eq_true rfl, Nat.le_of_ble_eq_true rfl⟩) [0, 1, 24] rfl (by decide) (SameL.cons SameA.rf (SameL.cons SameA.rf (SameL.cons SameA.rf SameL.nil))) (by subst eS; rfl) hP hD hS rfl hl.1 rfl (Nat.le_of_ble_eq_true rfl) ⟨hc1, hs1⟩ dL_law_2747 (fun H locs hP hD hS => ?_)
    refine lv_istore (lv' := [(6, .int 1), (5, .int (nI (4 * q))), (4, .ref a.oD), (3, .ref a.oA), (2, .ref a.am), (1, .ref a.aX), (0, .ref b)]) hx hb dL_law_2750 hl (by decide) rfl (fun ls hl => ?_)
    refine lv_aload_n hx hb dL_law_2752 rfl (lv_at hl 4 rfl) ?_
    refine lw_m (s1 := S9) (t1 := s9) (Wn := (LCh cy a S9 S9)) hC (c_X8_failedCommand_no l G cy a.am a.aS a.aBf a.aAs a.aSv a.aPa a.aOu a.aTx a.aCo s9.ct s9.nb s9.LN ((s9.x0).1) s9.CM s9.hs s9.th (bI (s9.x0).2) s9.ep s9.fc s9.σ (by rw [h1]; decide)) (cwV 0 hC.S9.2.2.2.2 gL_law_X8_failedCommand rfl rfl rfl (by decide +kernel) ⟨Nat.le_of_ble_eq_true rfl, Nat.le_of_ble_eq_true rfl⟩) [15, 16] rfl (by decide) (SameR.cons (SameR.cons SameR.nil)) (by subst eS; rfl) hP hD hS rfl hl.1 rfl (Nat.le_of_ble_eq_true rfl) ⟨hc1, hs1⟩ dL_law_2753 (fun H locs hP hD hS => ?_)
    refine lv_istore (lv' := [(7, .int 0), (6, .int 1), (5, .int (nI (4 * q))), (4, .ref a.oD), (3, .ref a.oA), (2, .ref a.am), (1, .ref a.aX), (0, .ref b)]) hx hb dL_law_2756 hl (by decide) rfl (fun ls hl => ?_)
    refine lv_aload_n hx hb dL_law_2758 rfl (lv_at hl 5 rfl) ?_
    refine lw_thrown (s1 := S9) (t1 := S9) (k := 1) hC hP (by subst eS; rfl) hl.1 (Nat.le_of_ble_eq_true rfl) ⟨hc1, hs1⟩ dL_law_2759 ?_
    refine lv_iload hx hb dL_law_2762 (lv_at hl 1 rfl) ?_
    refine lv_icmp_eq (tgt := 2769) hx hb dL_law_2764 (by decide) (fun c_2764 => ?_) (fun c_2764 => ?_)
    rotate_left
    · exact absurd c_2764 (by decide)
    refine lv_iload hx hb dL_law_2769 (lv_at hl 1 rfl) ?_
    refine lv_if_ne (tgt := 2786) hx hb dL_law_2771 (by decide) (fun c_2771 => ?_) (fun c_2771 => ?_)
    rotate_left
    · exact absurd c_2771 (by decide)
    refine lv_goto (tgt := 2890) hx hb dL_law_2786 (by decide) ?_
    exact kk S9 H locs ls (LI.of (LI.mono hI (by omega)) (by subst eS; rfl) (by subst eS; rfl) (by subst eS; rfl) (by subst eS; rfl) (by subst eS; rfl) (by subst eS; rfl) (by subst eS; rfl) (by subst eS; rfl) (by subst eS; rfl) (by subst eS; rfl) (by subst eS; rfl) (by subst eS; rfl) (by subst eS; rfl) (by subst eS; rfl) (by subst eS; rfl)) hP hD hS (lv_sub hl [2, 3, 4, 5, 6, 7] rfl)
  · have h2 : ¬ s9.fc < 0 := by rw [h1, Int32.lt_iff_toInt_lt, nI_toInt (by omega), Int32.toInt_zero]; omega
    have h3 : ¬ s9.fc = -1 := fun z => h2 (by rw [z]; decide)
    obtain ⟨S9, eS⟩ : ∃ z : LwS, z = (LwS.mk s9.σ s9.υ s9.ς s9.hs s9.ep s9.fc s9.ml 0 s9.nx s9.ct s9.nb s9.n s9.LN s9.CM s9.ρ s9.x s9.x0 s9.f s9.gk s9.g1 s9.g2 s9.g3 s9.fb s9.fB s9.fA s9.fV s9.fP s9.fO s9.g (fun _ => (s9.fc).toInt64) s9.fd) := ⟨_, rfl⟩
    refine lv_aload_n hx hb dL_law_2745 rfl (lv_at hl 4 rfl) ?_
    refine lv_aload_n hx hb dL_law_2746 rfl (lv_at hl 2 rfl) ?_
    refine lw_w (Wc := (LCh cy a s9 s9)) (Wn := (LCh cy a S9 s9)) hC (w_failedCommand_ok l G cy kS vS a.aX a.na a.tr a.sn s9.hs a.hi a.sc s9.ep s9.fc a.ob s9.σ a.oA s9.fo hI.1.1 h3) (vx_cwSW 2 hC.S9.2.2.2.2 gL_law_L_failedCommand rfl rfl rfl (by decide +kernel) ⟨Nat.le_of_ble_eq_true rfl, Nat.le_of_ble_eq_true rfl⟩) [0, 1, 24] rfl (by decide) (SameL.cons SameA.rf (SameL.cons SameA.rf (SameL.cons SameA.one SameL.nil))) (by subst eS; rfl) hP hD hS rfl hl.1 rfl (Nat.le_of_ble_eq_true rfl) ⟨hc0, hs0⟩ dL_law_2747 (fun H locs hP hD hS => ?_)
    refine lv_istore (lv' := [(6, .int 0), (5, .int (nI (4 * q))), (4, .ref a.oD), (3, .ref a.oA), (2, .ref a.am), (1, .ref a.aX), (0, .ref b)]) hx hb dL_law_2750 hl (by decide) rfl (fun ls hl => ?_)
    refine lv_aload_n hx hb dL_law_2752 rfl (lv_at hl 4 rfl) ?_
    refine lw_m (s1 := S9) (t1 := s9) (Wn := (LCh cy a S9 S9)) hC (c_X8_failedCommand_ok l G cy a.am a.aS a.aBf a.aAs a.aSv a.aPa a.aOu a.aTx a.aCo s9.ct s9.nb s9.LN ((s9.x0).1) s9.CM s9.hs s9.th (bI (s9.x0).2) s9.ep s9.fc s9.σ h2) (cwV 0 hC.S9.2.2.2.2 gL_law_X8_failedCommand rfl rfl rfl (by decide +kernel) ⟨Nat.le_of_ble_eq_true rfl, Nat.le_of_ble_eq_true rfl⟩) [15, 16] rfl (by decide) (SameR.cons (SameR.cons SameR.nil)) (by subst eS; rfl) hP hD hS rfl hl.1 rfl (Nat.le_of_ble_eq_true rfl) ⟨hcn, hsn⟩ dL_law_2753 (fun H locs hP hD hS => ?_)
    refine lv_istore (lv' := [(7, .int s9.fc), (6, .int 0), (5, .int (nI (4 * q))), (4, .ref a.oD), (3, .ref a.oA), (2, .ref a.am), (1, .ref a.aX), (0, .ref b)]) hx hb dL_law_2756 hl (by decide) rfl (fun ls hl => ?_)
    refine lv_aload_n hx hb dL_law_2758 rfl (lv_at hl 5 rfl) ?_
    refine lw_thrown (s1 := S9) (t1 := S9) (k := 0) hC hP (by subst eS; rfl) hl.1 (Nat.le_of_ble_eq_true rfl) ⟨hcn, hsn⟩ dL_law_2759 ?_
    refine lv_iload hx hb dL_law_2762 (lv_at hl 1 rfl) ?_
    refine lv_icmp_eq (tgt := 2769) hx hb dL_law_2764 (by decide) (fun c_2764 => ?_) (fun c_2764 => ?_)
    rotate_left
    · exact absurd c_2764 (by decide)
    refine lv_iload hx hb dL_law_2769 (lv_at hl 1 rfl) ?_
    refine lv_if_ne (tgt := 2786) hx hb dL_law_2771 (by decide) (fun c_2771 => ?_) (fun c_2771 => ?_)
    · exact absurd c_2771 (by decide)
    refine lv_aload_n hx hb dL_law_2774 rfl (lv_at hl 4 rfl) ?_
    refine lv_iconst (v := 0) hx hb dL_law_2775 (by decide) ?_
    refine lw_ldL (s1 := S9) (t1 := S9) (x := (s9.fc).toInt64) hC hP (by subst eS; rfl) dL_law_2776 ?_
    refine lv_iload hx hb dL_law_2777 (lv_at hl 0 rfl) ?_
    refine lv_i2l hx hb dL_law_2779 rfl ?_
    refine m_lcmp0 hx hb rfl dL_law_2780 ?_
    refine lv_if_eq (tgt := 2786) hx hb dL_law_2781 (by decide) (fun c_2781 => ?_) (fun c_2781 => ?_)
    rotate_left
    · exact absurd c_2781 (by decide)
    refine lv_goto (tgt := 2890) hx hb dL_law_2786 (by decide) ?_
    refine W.widen (k := cells + 1) (n := slots + 6) (by omega) (by omega) ?_
    exact kk S9 H locs ls (LI.of (LI.mono hI (by omega)) (by subst eS; rfl) (by subst eS; rfl) (by subst eS; rfl) (by subst eS; rfl) (by subst eS; rfl) (by subst eS; rfl) (by subst eS; rfl) (by subst eS; rfl) (by subst eS; rfl) (by subst eS; rfl) (by subst eS; rfl) (by subst eS; rfl) (by subst eS; rfl) (by subst eS; rfl) (by subst eS; rfl)) hP hD hS (lv_sub hl [2, 3, 4, 5, 6, 7] rfl)

set_option maxRecDepth 100000 in
set_option maxHeartbeats 4000000 in
theorem case_52 {p : Program} {l : Launch} {e : Env} {s : State} {m : MethodId} {below : List Frame} {meth : Method} {cq : Code} {G : va_G} {cy : Nat → ClassId} {kS vS : Nat → Nat} {A : Nat → Prop} {a : LA} {b L q : Nat} {xs : Nat → Int32} {Q : State → Prop} {n0 cells slots : Nat} (hC : LC l p s m meth cq G cy kS vS A b L xs) (hq : 4 * q + 4 ≤ L) (hn0 : n0 < 1000000) (hc1 : cells + 1 ≤ room_1.cells) (hs1 : slots + 6 ≤ room_1.slots) (kk : LGo p l e s m below meth cq G cy A a b q Q (n0 + 300) (cells + 1) (slots + 6) 2890) : LGo p l e s m below meth cq G cy A a b q Q n0 cells slots 2789 := by
  intro s9 H locs ls hI hP hD hS hl
  obtain ⟨hx, hb, hml, hown, hts⟩ := id hC.S9
  have hL9 := hC.hL
  have hc0 : cells + 0 ≤ room_1.cells := Nat.le_of_succ_le hc1
  have hcn : cells ≤ room_1.cells := Nat.le_of_succ_le hc1
  have hs0 : slots + 0 ≤ room_1.slots := Nat.le_trans (Nat.le_add_right slots 6) hs1
  have hsn : slots ≤ room_1.slots := Nat.le_trans (Nat.le_add_right slots 6) hs1
  have ho := hI.1.1
  have hN0 := ho.1
  have hM0 := ho.2.1
  have hE0 := ho.2.2.1
  have hnx := hI.2.2.2.2.1
  have hct := hI.2.2.2.2.2.1
  rcases hk : s9.ct with _ | K
  · have e8 : s9 = (LwS.mk s9.σ s9.υ s9.ς s9.hs s9.ep s9.fc s9.ml s9.th s9.nx 0 s9.nb s9.n s9.LN s9.CM s9.ρ s9.x s9.x0 s9.f s9.gk s9.g1 s9.g2 s9.g3 s9.fb s9.fB s9.fA s9.fV s9.fP s9.fO s9.g s9.fo s9.fd) := by rw [← hk]
    have hP : va_P G vwCl (fl (LCh cy a (LwS.mk s9.σ s9.υ s9.ς s9.hs s9.ep s9.fc s9.ml s9.th s9.nx 0 s9.nb s9.n s9.LN s9.CM s9.ρ s9.x s9.x0 s9.f s9.gk s9.g1 s9.g2 s9.g3 s9.fb s9.fB s9.fA s9.fV s9.fP s9.fO s9.g s9.fo s9.fd) (LwS.mk s9.σ s9.υ s9.ς s9.hs s9.ep s9.fc s9.ml s9.th s9.nx 0 s9.nb s9.n s9.LN s9.CM s9.ρ s9.x s9.x0 s9.f s9.gk s9.g1 s9.g2 s9.g3 s9.fb s9.fB s9.fA s9.fV s9.fP s9.fO s9.g s9.fo s9.fd))) H := by rw [← e8]; exact hP
    have hD : va_D A (fl (LCh cy a (LwS.mk s9.σ s9.υ s9.ς s9.hs s9.ep s9.fc s9.ml s9.th s9.nx 0 s9.nb s9.n s9.LN s9.CM s9.ρ s9.x s9.x0 s9.f s9.gk s9.g1 s9.g2 s9.g3 s9.fb s9.fB s9.fA s9.fV s9.fP s9.fO s9.g s9.fo s9.fd) (LwS.mk s9.σ s9.υ s9.ς s9.hs s9.ep s9.fc s9.ml s9.th s9.nx 0 s9.nb s9.n s9.LN s9.CM s9.ρ s9.x s9.x0 s9.f s9.gk s9.g1 s9.g2 s9.g3 s9.fb s9.fB s9.fA s9.fV s9.fP s9.fO s9.g s9.fo s9.fd))) := by rw [← e8]; exact hD
    have hI : LI n0 (LwS.mk s9.σ s9.υ s9.ς s9.hs s9.ep s9.fc s9.ml s9.th s9.nx 0 s9.nb s9.n s9.LN s9.CM s9.ρ s9.x s9.x0 s9.f s9.gk s9.g1 s9.g2 s9.g3 s9.fb s9.fB s9.fA s9.fV s9.fP s9.fO s9.g s9.fo s9.fd) := by rw [← e8]; exact hI
    obtain ⟨S9, eS⟩ : ∃ z : LwS, z = (LwS.mk s9.σ s9.υ s9.ς s9.hs s9.ep s9.fc s9.ml 1 s9.nx 0 s9.nb s9.n s9.LN s9.CM s9.ρ s9.x s9.x0 s9.f s9.gk s9.g1 s9.g2 s9.g3 s9.fb s9.fB s9.fA s9.fV s9.fP s9.fO s9.g s9.fo s9.fd) := ⟨_, rfl⟩
    refine lv_aload_n hx hb dL_law_2789 rfl (lv_at hl 4 rfl) ?_
    refine lv_aload_n hx hb dL_law_2790 rfl (lv_at hl 2 rfl) ?_
    refine lw_w (Wc := (LCh cy a (LwS.mk s9.σ s9.υ s9.ς s9.hs s9.ep s9.fc s9.ml s9.th s9.nx 0 s9.nb s9.n s9.LN s9.CM s9.ρ s9.x s9.x0 s9.f s9.gk s9.g1 s9.g2 s9.g3 s9.fb s9.fB s9.fA s9.fV s9.fP s9.fO s9.g s9.fo s9.fd) (LwS.mk s9.σ s9.υ s9.ς s9.hs s9.ep s9.fc s9.ml s9.th s9.nx 0 s9.nb s9.n s9.LN s9.CM s9.ρ s9.x s9.x0 s9.f s9.gk s9.g1 s9.g2 s9.g3 s9.fb s9.fB s9.fA s9.fV s9.fP s9.fO s9.g s9.fo s9.fd))) (Wn := (LCh cy a S9 (LwS.mk s9.σ s9.υ s9.ς s9.hs s9.ep s9.fc s9.ml s9.th s9.nx 0 s9.nb s9.n s9.LN s9.CM s9.ρ s9.x s9.x0 s9.f s9.gk s9.g1 s9.g2 s9.g3 s9.fb s9.fB s9.fA s9.fV s9.fP s9.fO s9.g s9.fo s9.fd))) hC (w_undo_t l G cy kS vS a.aX a.na a.tr a.sn s9.hs a.hi a.sc s9.ep s9.fc a.ob a.hA s9.nx 0 a.ra s9.ρ s9.σ a.oA s9.fo hC.hl9) (vx_cwSW 2 hC.S9.2.2.2.2 gL_law_L_undo rfl rfl rfl (by decide +kernel) ⟨Nat.le_of_ble_eq_true rfl, Nat.le_of_ble_eq_true rfl⟩) [0, 1, 4, 5, 6, 24] rfl (by decide) (SameL.cons SameA.rf (SameL.cons SameA.rf (SameL.cons SameA.rf (SameL.cons SameA.rf (SameL.cons SameA.rf (SameL.cons SameA.rf SameL.nil)))))) (by subst eS; rfl) hP hD hS rfl hl.1 rfl (Nat.le_of_ble_eq_true rfl) ⟨hc1, hs1⟩ dL_law_2791 (fun H locs hP hD hS => ?_)
    refine lv_istore (lv' := [(6, .int 1), (5, .int (nI (4 * q))), (4, .ref a.oD), (3, .ref a.oA), (2, .ref a.am), (1, .ref a.aX), (0, .ref b)]) hx hb dL_law_2794 hl (by decide) rfl (fun ls hl => ?_)
    refine lv_aload_n hx hb dL_law_2796 rfl (lv_at hl 4 rfl) ?_
    refine lw_m (s1 := S9) (t1 := (LwS.mk s9.σ s9.υ s9.ς s9.hs s9.ep s9.fc s9.ml s9.th s9.nx 0 s9.nb s9.n s9.LN s9.CM s9.ρ s9.x s9.x0 s9.f s9.gk s9.g1 s9.g2 s9.g3 s9.fb s9.fB s9.fA s9.fV s9.fP s9.fO s9.g s9.fo s9.fd)) (Wn := (LCh cy a S9 S9)) hC (c_X8_undo_no l G cy a.am a.aS a.aBf a.aAs a.aSv a.aPa a.aOu a.aTx a.aCo 0 s9.nb s9.LN ((s9.x0).1) s9.CM s9.hs s9.th (bI (s9.x0).2) s9.ep s9.fc s9.σ) (cwV 0 hC.S9.2.2.2.2 gL_law_X8_undo rfl rfl rfl (by decide +kernel) ⟨Nat.le_of_ble_eq_true rfl, Nat.le_of_ble_eq_true rfl⟩) [15, 16] rfl (by decide) (SameR.cons (SameR.cons SameR.nil)) (by subst eS; rfl) hP hD hS rfl hl.1 rfl (Nat.le_of_ble_eq_true rfl) ⟨hc1, hs1⟩ dL_law_2797 (fun H locs hP hD hS => ?_)
    refine lv_istore (lv' := [(7, .int 0), (6, .int 1), (5, .int (nI (4 * q))), (4, .ref a.oD), (3, .ref a.oA), (2, .ref a.am), (1, .ref a.aX), (0, .ref b)]) hx hb dL_law_2800 hl (by decide) rfl (fun ls hl => ?_)
    refine lv_aload_n hx hb dL_law_2802 rfl (lv_at hl 5 rfl) ?_
    refine lw_thrown (s1 := S9) (t1 := S9) (k := 1) hC hP (by subst eS; rfl) hl.1 (Nat.le_of_ble_eq_true rfl) ⟨hc1, hs1⟩ dL_law_2803 ?_
    refine lv_iload hx hb dL_law_2806 (lv_at hl 1 rfl) ?_
    refine lv_icmp_eq (tgt := 2813) hx hb dL_law_2808 (by decide) (fun c_2808 => ?_) (fun c_2808 => ?_)
    rotate_left
    · exact absurd c_2808 (by decide)
    refine lv_iload hx hb dL_law_2813 (lv_at hl 1 rfl) ?_
    refine lv_if_ne (tgt := 2830) hx hb dL_law_2815 (by decide) (fun c_2815 => ?_) (fun c_2815 => ?_)
    rotate_left
    · exact absurd c_2815 (by decide)
    refine lv_goto (tgt := 2890) hx hb dL_law_2830 (by decide) ?_
    exact kk S9 H locs ls (LI.of (LI.mono hI (by omega)) (by subst eS; rfl) (by subst eS; rfl) (by subst eS; rfl) (by subst eS; rfl) (by subst eS; rfl) (by subst eS; rfl) (by subst eS; rfl) (by subst eS; rfl) (by subst eS; rfl) (by subst eS; rfl) (by subst eS; rfl) (by subst eS; rfl) (by subst eS; rfl) (by subst eS; rfl) (by subst eS; rfl)) hP hD hS (lv_sub hl [2, 3, 4, 5, 6, 7] rfl)
  · have e8 : s9 = (LwS.mk s9.σ s9.υ s9.ς s9.hs s9.ep s9.fc s9.ml s9.th s9.nx (K + 1) s9.nb s9.n s9.LN s9.CM s9.ρ s9.x s9.x0 s9.f s9.gk s9.g1 s9.g2 s9.g3 s9.fb s9.fB s9.fA s9.fV s9.fP s9.fO s9.g s9.fo s9.fd) := by rw [← hk]
    have hP : va_P G vwCl (fl (LCh cy a (LwS.mk s9.σ s9.υ s9.ς s9.hs s9.ep s9.fc s9.ml s9.th s9.nx (K + 1) s9.nb s9.n s9.LN s9.CM s9.ρ s9.x s9.x0 s9.f s9.gk s9.g1 s9.g2 s9.g3 s9.fb s9.fB s9.fA s9.fV s9.fP s9.fO s9.g s9.fo s9.fd) (LwS.mk s9.σ s9.υ s9.ς s9.hs s9.ep s9.fc s9.ml s9.th s9.nx (K + 1) s9.nb s9.n s9.LN s9.CM s9.ρ s9.x s9.x0 s9.f s9.gk s9.g1 s9.g2 s9.g3 s9.fb s9.fB s9.fA s9.fV s9.fP s9.fO s9.g s9.fo s9.fd))) H := by rw [← e8]; exact hP
    have hD : va_D A (fl (LCh cy a (LwS.mk s9.σ s9.υ s9.ς s9.hs s9.ep s9.fc s9.ml s9.th s9.nx (K + 1) s9.nb s9.n s9.LN s9.CM s9.ρ s9.x s9.x0 s9.f s9.gk s9.g1 s9.g2 s9.g3 s9.fb s9.fB s9.fA s9.fV s9.fP s9.fO s9.g s9.fo s9.fd) (LwS.mk s9.σ s9.υ s9.ς s9.hs s9.ep s9.fc s9.ml s9.th s9.nx (K + 1) s9.nb s9.n s9.LN s9.CM s9.ρ s9.x s9.x0 s9.f s9.gk s9.g1 s9.g2 s9.g3 s9.fb s9.fB s9.fA s9.fV s9.fP s9.fO s9.g s9.fo s9.fd))) := by rw [← e8]; exact hD
    have hI : LI n0 (LwS.mk s9.σ s9.υ s9.ς s9.hs s9.ep s9.fc s9.ml s9.th s9.nx (K + 1) s9.nb s9.n s9.LN s9.CM s9.ρ s9.x s9.x0 s9.f s9.gk s9.g1 s9.g2 s9.g3 s9.fb s9.fB s9.fA s9.fV s9.fP s9.fO s9.g s9.fo s9.fd) := by rw [← e8]; exact hI
    have hp : ∀ j, j < 89 → s9.fP (89 * K + j) = encS (s9.ρ ((s9.nx + 7) % 8)) j := fun j hj => by have h9 := hI.2.2.2.2.2.2.1 K (Nat.lt_succ_self _) j hj; rw [show (s9.nx + 8 - (K + 1) + K) % 8 = (s9.nx + 7) % 8 by omega] at h9; exact h9
    obtain ⟨S9, eS⟩ : ∃ z : LwS, z = (LwS.mk (s9.ρ ((s9.nx + 7) % 8)) s9.υ s9.ς s9.hs s9.ep s9.fc s9.ml 0 ((s9.nx + 7) % 8) K s9.nb s9.n s9.LN s9.CM s9.ρ s9.x s9.x0 s9.f s9.gk s9.g1 s9.g2 s9.g3 s9.fb s9.fB s9.fA s9.fV s9.fP s9.fO s9.g (fun _ => (nI K).toInt64) s9.fd) := ⟨_, rfl⟩
    refine lv_aload_n hx hb dL_law_2789 rfl (lv_at hl 4 rfl) ?_
    refine lv_aload_n hx hb dL_law_2790 rfl (lv_at hl 2 rfl) ?_
    refine lw_w (Wc := (LCh cy a (LwS.mk s9.σ s9.υ s9.ς s9.hs s9.ep s9.fc s9.ml s9.th s9.nx (K + 1) s9.nb s9.n s9.LN s9.CM s9.ρ s9.x s9.x0 s9.f s9.gk s9.g1 s9.g2 s9.g3 s9.fb s9.fB s9.fA s9.fV s9.fP s9.fO s9.g s9.fo s9.fd) (LwS.mk s9.σ s9.υ s9.ς s9.hs s9.ep s9.fc s9.ml s9.th s9.nx (K + 1) s9.nb s9.n s9.LN s9.CM s9.ρ s9.x s9.x0 s9.f s9.gk s9.g1 s9.g2 s9.g3 s9.fb s9.fB s9.fA s9.fV s9.fP s9.fO s9.g s9.fo s9.fd))) (Wn := (LCh cy a S9 (LwS.mk s9.σ s9.υ s9.ς s9.hs s9.ep s9.fc s9.ml s9.th s9.nx (K + 1) s9.nb s9.n s9.LN s9.CM s9.ρ s9.x s9.x0 s9.f s9.gk s9.g1 s9.g2 s9.g3 s9.fb s9.fB s9.fA s9.fV s9.fP s9.fO s9.g s9.fo s9.fd))) hC (w_undo_ok l G cy kS vS a.aX a.na a.tr a.sn s9.hs a.hi a.sc s9.ep s9.fc a.ob a.hA s9.nx K a.ra s9.ρ s9.σ a.oA s9.fo (fun k hk => (hI.2.2.1 k hk).1) hnx (by omega)) (vx_cwSW 2 hC.S9.2.2.2.2 gL_law_L_undo rfl rfl rfl (by decide +kernel) ⟨Nat.le_of_ble_eq_true rfl, Nat.le_of_ble_eq_true rfl⟩) [0, 1, 4, 5, 6, 24] rfl (by decide) (SameL.cons SameA.rf (SameL.cons SameA.st (SameL.cons SameA.one (SameL.cons SameA.rf (SameL.cons SameA.rf (SameL.cons SameA.one SameL.nil)))))) (by subst eS; rfl) hP hD hS rfl hl.1 rfl (Nat.le_of_ble_eq_true rfl) ⟨hc0, hs0⟩ dL_law_2791 (fun H locs hP hD hS => ?_)
    refine lv_istore (lv' := [(6, .int 0), (5, .int (nI (4 * q))), (4, .ref a.oD), (3, .ref a.oA), (2, .ref a.am), (1, .ref a.aX), (0, .ref b)]) hx hb dL_law_2794 hl (by decide) rfl (fun ls hl => ?_)
    refine lv_aload_n hx hb dL_law_2796 rfl (lv_at hl 4 rfl) ?_
    refine lw_m (s1 := S9) (t1 := (LwS.mk s9.σ s9.υ s9.ς s9.hs s9.ep s9.fc s9.ml s9.th s9.nx (K + 1) s9.nb s9.n s9.LN s9.CM s9.ρ s9.x s9.x0 s9.f s9.gk s9.g1 s9.g2 s9.g3 s9.fb s9.fB s9.fA s9.fV s9.fP s9.fO s9.g s9.fo s9.fd)) (Wn := (LCh cy a S9 S9)) hC (c_X8_undo_ok l G cy a.am a.aS a.aBf a.aAs a.aSv a.aPa a.aOu a.aTx a.aCo (K + 1) s9.nb s9.LN ((s9.x0).1) s9.CM s9.hs s9.th (bI (s9.x0).2) s9.ep s9.fc s9.σ (s9.ρ ((s9.nx + 7) % 8)) K s9.fP (by omega) hp) (cwV 0 hC.S9.2.2.2.2 gL_law_X8_undo rfl rfl rfl (by decide +kernel) ⟨Nat.le_of_ble_eq_true rfl, Nat.le_of_ble_eq_true rfl⟩) [15, 16, 20] rfl (by decide) (SameR.cons (SameR.cons (SameR.cons SameR.nil))) (by subst eS; rfl) hP hD hS rfl hl.1 rfl (Nat.le_of_ble_eq_true rfl) ⟨hcn, hsn⟩ dL_law_2797 (fun H locs hP hD hS => ?_)
    refine lv_istore (lv' := [(7, .int (nI K)), (6, .int 0), (5, .int (nI (4 * q))), (4, .ref a.oD), (3, .ref a.oA), (2, .ref a.am), (1, .ref a.aX), (0, .ref b)]) hx hb dL_law_2800 hl (by decide) rfl (fun ls hl => ?_)
    refine lv_aload_n hx hb dL_law_2802 rfl (lv_at hl 5 rfl) ?_
    refine lw_thrown (s1 := S9) (t1 := S9) (k := 0) hC hP (by subst eS; rfl) hl.1 (Nat.le_of_ble_eq_true rfl) ⟨hcn, hsn⟩ dL_law_2803 ?_
    refine lv_iload hx hb dL_law_2806 (lv_at hl 1 rfl) ?_
    refine lv_icmp_eq (tgt := 2813) hx hb dL_law_2808 (by decide) (fun c_2808 => ?_) (fun c_2808 => ?_)
    rotate_left
    · exact absurd c_2808 (by decide)
    refine lv_iload hx hb dL_law_2813 (lv_at hl 1 rfl) ?_
    refine lv_if_ne (tgt := 2830) hx hb dL_law_2815 (by decide) (fun c_2815 => ?_) (fun c_2815 => ?_)
    · exact absurd c_2815 (by decide)
    refine lv_aload_n hx hb dL_law_2818 rfl (lv_at hl 4 rfl) ?_
    refine lv_iconst (v := 0) hx hb dL_law_2819 (by decide) ?_
    refine lw_ldL (s1 := S9) (t1 := S9) (x := (nI K).toInt64) hC hP (by subst eS; rfl) dL_law_2820 ?_
    refine lv_iload hx hb dL_law_2821 (lv_at hl 0 rfl) ?_
    refine lv_i2l hx hb dL_law_2823 rfl ?_
    refine m_lcmp0 hx hb rfl dL_law_2824 ?_
    refine lv_if_eq (tgt := 2830) hx hb dL_law_2825 (by decide) (fun c_2825 => ?_) (fun c_2825 => ?_)
    rotate_left
    · exact absurd c_2825 (by decide)
    refine lv_goto (tgt := 2890) hx hb dL_law_2830 (by decide) ?_
    refine W.widen (k := cells + 1) (n := slots + 6) (by omega) (by omega) ?_
    exact kk S9 H locs ls (LI.of ((LI.undone hI rfl).mono (by omega)) (by subst eS; rfl) (by subst eS; rfl) (by subst eS; rfl) (by subst eS; rfl) (by subst eS; rfl) (by subst eS; rfl) (by subst eS; rfl) (by subst eS; rfl) (by subst eS; rfl) (by subst eS; rfl) (by subst eS; rfl) (by subst eS; rfl) (by subst eS; rfl) (by subst eS; rfl) (by subst eS; rfl)) hP hD hS (lv_sub hl [2, 3, 4, 5, 6, 7] rfl)

set_option maxRecDepth 100000 in
set_option maxHeartbeats 4000000 in
theorem case_53 {p : Program} {l : Launch} {e : Env} {s : State} {m : MethodId} {below : List Frame} {meth : Method} {cq : Code} {G : va_G} {cy : Nat → ClassId} {kS vS : Nat → Nat} {A : Nat → Prop} {a : LA} {b L q : Nat} {xs : Nat → Int32} {Q : State → Prop} {n0 cells slots : Nat} (hC : LC l p s m meth cq G cy kS vS A b L xs) (hq : 4 * q + 4 ≤ L) (hn0 : n0 < 1000000) (hc1 : cells + 1 ≤ room_1.cells) (hs1 : slots + 6 ≤ room_1.slots) (kk : LGo p l e s m below meth cq G cy A a b q Q (n0 + 300) (cells + 1) (slots + 6) 2890) : LGo p l e s m below meth cq G cy A a b q Q n0 cells slots 2833 := by
  intro s9 H locs ls hI hP hD hS hl
  obtain ⟨hx, hb, hml, hown, hts⟩ := id hC.S9
  have hL9 := hC.hL
  have hc0 : cells + 0 ≤ room_1.cells := Nat.le_of_succ_le hc1
  have hcn : cells ≤ room_1.cells := Nat.le_of_succ_le hc1
  have hs0 : slots + 0 ≤ room_1.slots := Nat.le_trans (Nat.le_add_right slots 6) hs1
  have hsn : slots ≤ room_1.slots := Nat.le_trans (Nat.le_add_right slots 6) hs1
  have ho := hI.1.1
  have hN0 := ho.1
  have hM0 := ho.2.1
  have hE0 := ho.2.2.1
  have hnx := hI.2.2.2.2.1
  have hct := hI.2.2.2.2.2.1
  obtain ⟨S9, eS⟩ : ∃ z : LwS, z = (LwS.mk s9.σ s9.υ s9.σ 1 s9.ep s9.fc s9.ml 0 s9.nx s9.ct s9.nb s9.n s9.LN s9.CM s9.ρ s9.x s9.x0 s9.f s9.gk s9.g1 s9.g2 s9.g3 s9.fb s9.fB s9.fA (encS s9.σ) s9.fP s9.fO s9.g s9.fo s9.fd) := ⟨_, rfl⟩
  refine lv_aload_n hx hb dL_law_2833 rfl (lv_at hl 4 rfl) ?_
  refine c_wcVi (ws' := fl (LCh cy a S9 s9)) hC.S9 (c_X7_save l G cy a.aX a.na a.tr a.sn s9.hs a.hi a.sc s9.ep s9.fc a.ob s9.σ s9.ς hI.1.1) (cwV 0 hC.S9.2.2.2.2 gL_law_X7_save rfl rfl rfl (by decide +kernel) ⟨Nat.le_of_ble_eq_true rfl, Nat.le_of_ble_eq_true rfl⟩) PB.blind (va_recv hC.hK.1 hP (ci := 11) (q0 := offs (LCh cy a s9 s9) 0 + 0) rfl ((fl_at (Wc := (LCh cy a s9 s9)) (j := 0) (i := 0) (c := [(a.aX, .inr (11, [.ref (a.na 0), .ref (a.tr 0), .ref (a.sn 0), .int s9.hs, .ref a.hi, .ref a.sc, .int s9.ep, .int s9.fc, .ref a.ob]))]) rfl (Nat.le_of_ble_eq_true rfl)).trans rfl)) (PB.at hC.hK (PpartC (Wc := (LCh cy a s9 s9)) (cs := [[(a.aX, .inr (11, [.ref (a.na 0), .ref (a.tr 0), .ref (a.sn 0), .int s9.hs, .ref a.hi, .ref a.sc, .int s9.ep, .int s9.fc, .ref a.ob]))], sWd cy a.na s9.σ, sWd cy a.sn s9.ς]) hP [0, 1, 3] rfl)) hP hD hS (poss (LCh cy a s9 s9) [0, 1, 3]) (poss_F (cs := [[(a.aX, .inr (11, [.ref (a.na 0), .ref (a.tr 0), .ref (a.sn 0), .int s9.hs, .ref a.hi, .ref a.sc, .int s9.ep, .int s9.fc, .ref a.ob]))], sWd cy a.na s9.σ, sWd cy a.sn s9.ς]) rfl) (poss_nd (by decide)) (SameL.fst (SameL.cons SameA.one (SameL.cons SameA.rf (SameL.cons SameA.st SameL.nil)))) (by subst eS; exact wsets_F (cs := [[(a.aX, .inr (11, [.ref (a.na 0), .ref (a.tr 0), .ref (a.sn 0), .int s9.hs, .ref a.hi, .ref a.sc, .int s9.ep, .int s9.fc, .ref a.ob]))], sWd cy a.na s9.σ, sWd cy a.sn s9.ς]) (ns := [[(a.aX, .inr (11, [.ref (a.na 0), .ref (a.tr 0), .ref (a.sn 0), .int 1, .ref a.hi, .ref a.sc, .int s9.ep, .int s9.fc, .ref a.ob]))], sWd cy a.na s9.σ, sWd cy a.sn s9.σ]) rfl (by decide) (SameL.len (SameL.cons SameA.one (SameL.cons SameA.rf (SameL.cons SameA.st SameL.nil))))) rfl hl.1 rfl (Nat.le_of_ble_eq_true rfl) ⟨hcn, hsn⟩ dL_law_2834 (fun H locs hP hD hS => ?_)
  refine lv_aload_n hx hb dL_law_2837 rfl (lv_at hl 3 rfl) ?_
  refine lw_m (s1 := S9) (t1 := s9) (Wn := (LCh cy a S9 S9)) hC (c_X8_save l G cy a.am a.aS a.aBf a.aAs a.aSv a.aPa a.aOu a.aTx a.aCo s9.ct s9.nb s9.LN ((s9.x0).1) s9.CM s9.hs s9.th (bI (s9.x0).2) s9.ep s9.fc s9.σ s9.fV) (cwV 0 hC.S9.2.2.2.2 gL_law_X8_save rfl rfl rfl (by decide +kernel) ⟨Nat.le_of_ble_eq_true rfl, Nat.le_of_ble_eq_true rfl⟩) [15, 16, 19] rfl (by decide) (SameR.cons (SameR.cons (SameR.cons SameR.nil))) (by subst eS; rfl) hP hD hS rfl hl.1 rfl (Nat.le_of_ble_eq_true rfl) ⟨hcn, hsn⟩ dL_law_2838 (fun H locs hP hD hS => ?_)
  refine lv_icmp_eq (tgt := 2890) hx hb dL_law_2841 (by decide) (fun c_2841 => ?_) (fun c_2841 => ?_)
  rotate_left
  · exact absurd rfl c_2841
  refine W.widen (k := cells + 1) (n := slots + 6) (by omega) (by omega) ?_
  exact kk S9 H locs ls (LI.of ((LI.saved hI).mono (by omega)) (by subst eS; rfl) (by subst eS; rfl) (by subst eS; rfl) (by subst eS; rfl) (by subst eS; rfl) (by subst eS; rfl) (by subst eS; rfl) (by subst eS; rfl) (by subst eS; rfl) (by subst eS; rfl) (by subst eS; rfl) (by subst eS; rfl) (by subst eS; rfl) (by subst eS; rfl) (by subst eS; rfl)) hP hD hS (lv_sub hl [0, 1, 2, 3, 4, 5] rfl)

set_option maxRecDepth 100000 in
set_option maxHeartbeats 4000000 in
theorem case_54 {p : Program} {l : Launch} {e : Env} {s : State} {m : MethodId} {below : List Frame} {meth : Method} {cq : Code} {G : va_G} {cy : Nat → ClassId} {kS vS : Nat → Nat} {A : Nat → Prop} {a : LA} {b L q : Nat} {xs : Nat → Int32} {Q : State → Prop} {n0 cells slots : Nat} (hC : LC l p s m meth cq G cy kS vS A b L xs) (hq : 4 * q + 4 ≤ L) (hn0 : n0 < 1000000) (hc1 : cells + 1 ≤ room_1.cells) (hs1 : slots + 6 ≤ room_1.slots) (kk : LGo p l e s m below meth cq G cy A a b q Q (n0 + 300) (cells + 1) (slots + 6) 2890) : LGo p l e s m below meth cq G cy A a b q Q n0 cells slots 2846 := by
  intro s9 H locs ls hI hP hD hS hl
  obtain ⟨hx, hb, hml, hown, hts⟩ := id hC.S9
  have hL9 := hC.hL
  have hc0 : cells + 0 ≤ room_1.cells := Nat.le_of_succ_le hc1
  have hcn : cells ≤ room_1.cells := Nat.le_of_succ_le hc1
  have hs0 : slots + 0 ≤ room_1.slots := Nat.le_trans (Nat.le_add_right slots 6) hs1
  have hsn : slots ≤ room_1.slots := Nat.le_trans (Nat.le_add_right slots 6) hs1
  have ho := hI.1.1
  have hN0 := ho.1
  have hM0 := ho.2.1
  have hE0 := ho.2.2.1
  have hnx := hI.2.2.2.2.1
  have hct := hI.2.2.2.2.2.1
  rcases hI.2.2.2.1 with h1 | ⟨h1, h2⟩
  · have e8 : s9 = (LwS.mk s9.σ s9.υ s9.ς 0 s9.ep s9.fc s9.ml s9.th s9.nx s9.ct s9.nb s9.n s9.LN s9.CM s9.ρ s9.x s9.x0 s9.f s9.gk s9.g1 s9.g2 s9.g3 s9.fb s9.fB s9.fA s9.fV s9.fP s9.fO s9.g s9.fo s9.fd) := by rw [← h1]
    have hP : va_P G vwCl (fl (LCh cy a (LwS.mk s9.σ s9.υ s9.ς 0 s9.ep s9.fc s9.ml s9.th s9.nx s9.ct s9.nb s9.n s9.LN s9.CM s9.ρ s9.x s9.x0 s9.f s9.gk s9.g1 s9.g2 s9.g3 s9.fb s9.fB s9.fA s9.fV s9.fP s9.fO s9.g s9.fo s9.fd) (LwS.mk s9.σ s9.υ s9.ς 0 s9.ep s9.fc s9.ml s9.th s9.nx s9.ct s9.nb s9.n s9.LN s9.CM s9.ρ s9.x s9.x0 s9.f s9.gk s9.g1 s9.g2 s9.g3 s9.fb s9.fB s9.fA s9.fV s9.fP s9.fO s9.g s9.fo s9.fd))) H := by rw [← e8]; exact hP
    have hD : va_D A (fl (LCh cy a (LwS.mk s9.σ s9.υ s9.ς 0 s9.ep s9.fc s9.ml s9.th s9.nx s9.ct s9.nb s9.n s9.LN s9.CM s9.ρ s9.x s9.x0 s9.f s9.gk s9.g1 s9.g2 s9.g3 s9.fb s9.fB s9.fA s9.fV s9.fP s9.fO s9.g s9.fo s9.fd) (LwS.mk s9.σ s9.υ s9.ς 0 s9.ep s9.fc s9.ml s9.th s9.nx s9.ct s9.nb s9.n s9.LN s9.CM s9.ρ s9.x s9.x0 s9.f s9.gk s9.g1 s9.g2 s9.g3 s9.fb s9.fB s9.fA s9.fV s9.fP s9.fO s9.g s9.fo s9.fd))) := by rw [← e8]; exact hD
    have hI : LI n0 (LwS.mk s9.σ s9.υ s9.ς 0 s9.ep s9.fc s9.ml s9.th s9.nx s9.ct s9.nb s9.n s9.LN s9.CM s9.ρ s9.x s9.x0 s9.f s9.gk s9.g1 s9.g2 s9.g3 s9.fb s9.fB s9.fA s9.fV s9.fP s9.fO s9.g s9.fo s9.fd) := by rw [← e8]; exact hI
    obtain ⟨S9, eS⟩ : ∃ z : LwS, z = (LwS.mk s9.σ s9.υ s9.ς 0 s9.ep s9.fc s9.ml 1 s9.nx s9.ct s9.nb s9.n s9.LN s9.CM s9.ρ s9.x s9.x0 s9.f s9.gk s9.g1 s9.g2 s9.g3 s9.fb s9.fB s9.fA s9.fV s9.fP s9.fO s9.g s9.fo s9.fd) := ⟨_, rfl⟩
    refine lv_aload_n hx hb dL_law_2846 rfl (lv_at hl 4 rfl) ?_
    refine lv_aload_n hx hb dL_law_2847 rfl (lv_at hl 2 rfl) ?_
    refine lw_w (Wc := (LCh cy a (LwS.mk s9.σ s9.υ s9.ς 0 s9.ep s9.fc s9.ml s9.th s9.nx s9.ct s9.nb s9.n s9.LN s9.CM s9.ρ s9.x s9.x0 s9.f s9.gk s9.g1 s9.g2 s9.g3 s9.fb s9.fB s9.fA s9.fV s9.fP s9.fO s9.g s9.fo s9.fd) (LwS.mk s9.σ s9.υ s9.ς 0 s9.ep s9.fc s9.ml s9.th s9.nx s9.ct s9.nb s9.n s9.LN s9.CM s9.ρ s9.x s9.x0 s9.f s9.gk s9.g1 s9.g2 s9.g3 s9.fb s9.fB s9.fA s9.fV s9.fP s9.fO s9.g s9.fo s9.fd))) (Wn := (LCh cy a S9 (LwS.mk s9.σ s9.υ s9.ς 0 s9.ep s9.fc s9.ml s9.th s9.nx s9.ct s9.nb s9.n s9.LN s9.CM s9.ρ s9.x s9.x0 s9.f s9.gk s9.g1 s9.g2 s9.g3 s9.fb s9.fB s9.fA s9.fV s9.fP s9.fO s9.g s9.fo s9.fd))) hC (w_restore_t l G cy kS vS a.aX a.na a.tr a.sn a.hi a.sc s9.ep s9.fc a.ob a.hA s9.nx s9.ct s9.σ s9.ς a.oA s9.fo hC.hl9) (vx_cwSW 2 hC.S9.2.2.2.2 gL_law_L_restore rfl rfl rfl (by decide +kernel) ⟨Nat.le_of_ble_eq_true rfl, Nat.le_of_ble_eq_true rfl⟩) [0, 1, 4, 3, 24] rfl (by decide) (SameL.cons SameA.rf (SameL.cons SameA.rf (SameL.cons SameA.rf (SameL.cons SameA.rf (SameL.cons SameA.rf SameL.nil))))) (by subst eS; rfl) hP hD hS rfl hl.1 rfl (Nat.le_of_ble_eq_true rfl) ⟨hc1, hs1⟩ dL_law_2848 (fun H locs hP hD hS => ?_)
    refine lv_istore (lv' := [(6, .int 1), (5, .int (nI (4 * q))), (4, .ref a.oD), (3, .ref a.oA), (2, .ref a.am), (1, .ref a.aX), (0, .ref b)]) hx hb dL_law_2851 hl (by decide) rfl (fun ls hl => ?_)
    refine lv_aload_n hx hb dL_law_2853 rfl (lv_at hl 4 rfl) ?_
    refine lw_m (s1 := S9) (t1 := (LwS.mk s9.σ s9.υ s9.ς 0 s9.ep s9.fc s9.ml s9.th s9.nx s9.ct s9.nb s9.n s9.LN s9.CM s9.ρ s9.x s9.x0 s9.f s9.gk s9.g1 s9.g2 s9.g3 s9.fb s9.fB s9.fA s9.fV s9.fP s9.fO s9.g s9.fo s9.fd)) (Wn := (LCh cy a S9 S9)) hC (c_X8_restore_no l G cy a.am a.aS a.aBf a.aAs a.aSv a.aPa a.aOu a.aTx a.aCo s9.ct s9.nb s9.LN ((s9.x0).1) s9.CM 0 s9.th (bI (s9.x0).2) s9.ep s9.fc s9.σ) (cwV 0 hC.S9.2.2.2.2 gL_law_X8_restore rfl rfl rfl (by decide +kernel) ⟨Nat.le_of_ble_eq_true rfl, Nat.le_of_ble_eq_true rfl⟩) [15, 16] rfl (by decide) (SameR.cons (SameR.cons SameR.nil)) (by subst eS; rfl) hP hD hS rfl hl.1 rfl (Nat.le_of_ble_eq_true rfl) ⟨hc1, hs1⟩ dL_law_2854 (fun H locs hP hD hS => ?_)
    refine lv_istore (lv' := [(7, .int 0), (6, .int 1), (5, .int (nI (4 * q))), (4, .ref a.oD), (3, .ref a.oA), (2, .ref a.am), (1, .ref a.aX), (0, .ref b)]) hx hb dL_law_2857 hl (by decide) rfl (fun ls hl => ?_)
    refine lv_aload_n hx hb dL_law_2859 rfl (lv_at hl 5 rfl) ?_
    refine lw_thrown (s1 := S9) (t1 := S9) (k := 1) hC hP (by subst eS; rfl) hl.1 (Nat.le_of_ble_eq_true rfl) ⟨hc1, hs1⟩ dL_law_2860 ?_
    refine lv_iload hx hb dL_law_2863 (lv_at hl 1 rfl) ?_
    refine lv_icmp_eq (tgt := 2870) hx hb dL_law_2865 (by decide) (fun c_2865 => ?_) (fun c_2865 => ?_)
    rotate_left
    · exact absurd c_2865 (by decide)
    refine lv_iload hx hb dL_law_2870 (lv_at hl 1 rfl) ?_
    refine lv_if_ne (tgt := 2887) hx hb dL_law_2872 (by decide) (fun c_2872 => ?_) (fun c_2872 => ?_)
    rotate_left
    · exact absurd c_2872 (by decide)
    refine lv_goto (tgt := 2890) hx hb dL_law_2887 (by decide) ?_
    exact kk S9 H locs ls (LI.of (LI.mono hI (by omega)) (by subst eS; rfl) (by subst eS; rfl) (by subst eS; rfl) (by subst eS; rfl) (by subst eS; rfl) (by subst eS; rfl) (by subst eS; rfl) (by subst eS; rfl) (by subst eS; rfl) (by subst eS; rfl) (by subst eS; rfl) (by subst eS; rfl) (by subst eS; rfl) (by subst eS; rfl) (by subst eS; rfl)) hP hD hS (lv_sub hl [2, 3, 4, 5, 6, 7] rfl)
  · have e8 : s9 = (LwS.mk s9.σ s9.υ s9.ς 1 s9.ep s9.fc s9.ml s9.th s9.nx s9.ct s9.nb s9.n s9.LN s9.CM s9.ρ s9.x s9.x0 s9.f s9.gk s9.g1 s9.g2 s9.g3 s9.fb s9.fB s9.fA (encS s9.ς) s9.fP s9.fO s9.g s9.fo s9.fd) := by rw [← h1, ← h2]
    have hP : va_P G vwCl (fl (LCh cy a (LwS.mk s9.σ s9.υ s9.ς 1 s9.ep s9.fc s9.ml s9.th s9.nx s9.ct s9.nb s9.n s9.LN s9.CM s9.ρ s9.x s9.x0 s9.f s9.gk s9.g1 s9.g2 s9.g3 s9.fb s9.fB s9.fA (encS s9.ς) s9.fP s9.fO s9.g s9.fo s9.fd) (LwS.mk s9.σ s9.υ s9.ς 1 s9.ep s9.fc s9.ml s9.th s9.nx s9.ct s9.nb s9.n s9.LN s9.CM s9.ρ s9.x s9.x0 s9.f s9.gk s9.g1 s9.g2 s9.g3 s9.fb s9.fB s9.fA (encS s9.ς) s9.fP s9.fO s9.g s9.fo s9.fd))) H := by rw [← e8]; exact hP
    have hD : va_D A (fl (LCh cy a (LwS.mk s9.σ s9.υ s9.ς 1 s9.ep s9.fc s9.ml s9.th s9.nx s9.ct s9.nb s9.n s9.LN s9.CM s9.ρ s9.x s9.x0 s9.f s9.gk s9.g1 s9.g2 s9.g3 s9.fb s9.fB s9.fA (encS s9.ς) s9.fP s9.fO s9.g s9.fo s9.fd) (LwS.mk s9.σ s9.υ s9.ς 1 s9.ep s9.fc s9.ml s9.th s9.nx s9.ct s9.nb s9.n s9.LN s9.CM s9.ρ s9.x s9.x0 s9.f s9.gk s9.g1 s9.g2 s9.g3 s9.fb s9.fB s9.fA (encS s9.ς) s9.fP s9.fO s9.g s9.fo s9.fd))) := by rw [← e8]; exact hD
    have hI : LI n0 (LwS.mk s9.σ s9.υ s9.ς 1 s9.ep s9.fc s9.ml s9.th s9.nx s9.ct s9.nb s9.n s9.LN s9.CM s9.ρ s9.x s9.x0 s9.f s9.gk s9.g1 s9.g2 s9.g3 s9.fb s9.fB s9.fA (encS s9.ς) s9.fP s9.fO s9.g s9.fo s9.fd) := by rw [← e8]; exact hI
    obtain ⟨S9, eS⟩ : ∃ z : LwS, z = (LwS.mk s9.ς s9.υ s9.ς 1 s9.ep s9.fc s9.ml 0 s9.nx 0 s9.nb s9.n s9.LN s9.CM s9.ρ s9.x s9.x0 s9.f s9.gk s9.g1 s9.g2 s9.g3 s9.fb s9.fB s9.fA (encS s9.ς) s9.fP s9.fO s9.g (fun _ => (nI (nB s9.ς)).toInt64) s9.fd) := ⟨_, rfl⟩
    refine lv_aload_n hx hb dL_law_2846 rfl (lv_at hl 4 rfl) ?_
    refine lv_aload_n hx hb dL_law_2847 rfl (lv_at hl 2 rfl) ?_
    refine lw_w (Wc := (LCh cy a (LwS.mk s9.σ s9.υ s9.ς 1 s9.ep s9.fc s9.ml s9.th s9.nx s9.ct s9.nb s9.n s9.LN s9.CM s9.ρ s9.x s9.x0 s9.f s9.gk s9.g1 s9.g2 s9.g3 s9.fb s9.fB s9.fA (encS s9.ς) s9.fP s9.fO s9.g s9.fo s9.fd) (LwS.mk s9.σ s9.υ s9.ς 1 s9.ep s9.fc s9.ml s9.th s9.nx s9.ct s9.nb s9.n s9.LN s9.CM s9.ρ s9.x s9.x0 s9.f s9.gk s9.g1 s9.g2 s9.g3 s9.fb s9.fB s9.fA (encS s9.ς) s9.fP s9.fO s9.g s9.fo s9.fd))) (Wn := (LCh cy a S9 (LwS.mk s9.σ s9.υ s9.ς 1 s9.ep s9.fc s9.ml s9.th s9.nx s9.ct s9.nb s9.n s9.LN s9.CM s9.ρ s9.x s9.x0 s9.f s9.gk s9.g1 s9.g2 s9.g3 s9.fb s9.fB s9.fA (encS s9.ς) s9.fP s9.fO s9.g s9.fo s9.fd))) hC (w_restore_ok l G cy kS vS a.aX a.na a.tr a.sn 1 a.hi a.sc s9.ep s9.fc a.ob a.hA s9.nx s9.ct s9.σ s9.ς a.oA s9.fo hI.2.1.1) (vx_cwSW 2 hC.S9.2.2.2.2 gL_law_L_restore rfl rfl rfl (by decide +kernel) ⟨Nat.le_of_ble_eq_true rfl, Nat.le_of_ble_eq_true rfl⟩) [0, 1, 4, 3, 24] rfl (by decide) (SameL.cons SameA.rf (SameL.cons SameA.st (SameL.cons SameA.one (SameL.cons SameA.rf (SameL.cons SameA.one SameL.nil))))) (by subst eS; rfl) hP hD hS rfl hl.1 rfl (Nat.le_of_ble_eq_true rfl) ⟨hc0, hs0⟩ dL_law_2848 (fun H locs hP hD hS => ?_)
    refine lv_istore (lv' := [(6, .int 0), (5, .int (nI (4 * q))), (4, .ref a.oD), (3, .ref a.oA), (2, .ref a.am), (1, .ref a.aX), (0, .ref b)]) hx hb dL_law_2851 hl (by decide) rfl (fun ls hl => ?_)
    refine lv_aload_n hx hb dL_law_2853 rfl (lv_at hl 4 rfl) ?_
    refine lw_m (s1 := S9) (t1 := (LwS.mk s9.σ s9.υ s9.ς 1 s9.ep s9.fc s9.ml s9.th s9.nx s9.ct s9.nb s9.n s9.LN s9.CM s9.ρ s9.x s9.x0 s9.f s9.gk s9.g1 s9.g2 s9.g3 s9.fb s9.fB s9.fA (encS s9.ς) s9.fP s9.fO s9.g s9.fo s9.fd)) (Wn := (LCh cy a S9 S9)) hC (c_X8_restore_ok l G cy a.am a.aS a.aBf a.aAs a.aSv a.aPa a.aOu a.aTx a.aCo s9.ct s9.nb s9.LN ((s9.x0).1) s9.CM 1 s9.th (bI (s9.x0).2) s9.ep s9.fc s9.σ s9.ς) (cwV 0 hC.S9.2.2.2.2 gL_law_X8_restore rfl rfl rfl (by decide +kernel) ⟨Nat.le_of_ble_eq_true rfl, Nat.le_of_ble_eq_true rfl⟩) [15, 16, 19] rfl (by decide) (SameR.cons (SameR.cons (SameR.cons SameR.nil))) (by subst eS; rfl) hP hD hS rfl hl.1 rfl (Nat.le_of_ble_eq_true rfl) ⟨hcn, hsn⟩ dL_law_2854 (fun H locs hP hD hS => ?_)
    refine lv_istore (lv' := [(7, .int (nI (nB s9.ς))), (6, .int 0), (5, .int (nI (4 * q))), (4, .ref a.oD), (3, .ref a.oA), (2, .ref a.am), (1, .ref a.aX), (0, .ref b)]) hx hb dL_law_2857 hl (by decide) rfl (fun ls hl => ?_)
    refine lv_aload_n hx hb dL_law_2859 rfl (lv_at hl 5 rfl) ?_
    refine lw_thrown (s1 := S9) (t1 := S9) (k := 0) hC hP (by subst eS; rfl) hl.1 (Nat.le_of_ble_eq_true rfl) ⟨hcn, hsn⟩ dL_law_2860 ?_
    refine lv_iload hx hb dL_law_2863 (lv_at hl 1 rfl) ?_
    refine lv_icmp_eq (tgt := 2870) hx hb dL_law_2865 (by decide) (fun c_2865 => ?_) (fun c_2865 => ?_)
    rotate_left
    · exact absurd c_2865 (by decide)
    refine lv_iload hx hb dL_law_2870 (lv_at hl 1 rfl) ?_
    refine lv_if_ne (tgt := 2887) hx hb dL_law_2872 (by decide) (fun c_2872 => ?_) (fun c_2872 => ?_)
    · exact absurd c_2872 (by decide)
    refine lv_aload_n hx hb dL_law_2875 rfl (lv_at hl 4 rfl) ?_
    refine lv_iconst (v := 0) hx hb dL_law_2876 (by decide) ?_
    refine lw_ldL (s1 := S9) (t1 := S9) (x := (nI (nB s9.ς)).toInt64) hC hP (by subst eS; rfl) dL_law_2877 ?_
    refine lv_iload hx hb dL_law_2878 (lv_at hl 0 rfl) ?_
    refine lv_i2l hx hb dL_law_2880 rfl ?_
    refine m_lcmp0 hx hb rfl dL_law_2881 ?_
    refine lv_if_eq (tgt := 2887) hx hb dL_law_2882 (by decide) (fun c_2882 => ?_) (fun c_2882 => ?_)
    rotate_left
    · exact absurd c_2882 (by decide)
    refine lv_goto (tgt := 2890) hx hb dL_law_2887 (by decide) ?_
    refine W.widen (k := cells + 1) (n := slots + 6) (by omega) (by omega) ?_
    exact kk S9 H locs ls (LI.of ((LI.restored hI).mono (by omega)) (by subst eS; rfl) (by subst eS; rfl) (by subst eS; rfl) (by subst eS; rfl) (by subst eS; rfl) (by subst eS; rfl) (by subst eS; rfl) (by subst eS; rfl) (by subst eS; rfl) (by subst eS; rfl) (by subst eS; rfl) (by subst eS; rfl) (by subst eS; rfl) (by subst eS; rfl) (by subst eS; rfl)) hP hD hS (lv_sub hl [2, 3, 4, 5, 6, 7] rfl)
