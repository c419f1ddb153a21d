/-! the cases of the law, 3 -/
set_option maxRecDepth 100000 in
set_option maxHeartbeats 4000000 in
theorem case_42 {p : Program} {l : Launch} {e : Env} {s : State} {m : MethodId} {below : List Frame} {meth : Method} {cq : Code} {G : va_G} {cy : Nat → ClassId} {kS vS : Nat → Nat} {A : Nat → Prop} {a : LA} {b L q : Nat} {xs : Nat → Int32} {Q : State → Prop} {n0 cells slots : Nat} (hC : LC l p s m meth cq G cy kS vS A b L xs) (hq : 4 * q + 4 ≤ L) (hn0 : n0 < 1000000) (hc1 : cells + 1 ≤ room_1.cells) (hs1 : slots + 6 ≤ room_1.slots) (kk : LGo p l e s m below meth cq G cy A a b q Q (n0 + 300) (cells + 1) (slots + 6) 2890) : LGo p l e s m below meth cq G cy A a b q Q n0 cells slots 2382 := by
  intro s9 H locs ls hI hP hD hS hl
  obtain ⟨hx, hb, hml, hown, hts⟩ := id hC.S9
  have hL9 := hC.hL
  have hc0 : cells + 0 ≤ room_1.cells := Nat.le_of_succ_le hc1
  have hcn : cells ≤ room_1.cells := Nat.le_of_succ_le hc1
  have hs0 : slots + 0 ≤ room_1.slots := Nat.le_trans (Nat.le_add_right slots 6) hs1
  have hsn : slots ≤ room_1.slots := Nat.le_trans (Nat.le_add_right slots 6) hs1
  have ho := hI.1.1
  have hN0 := ho.1
  have hM0 := ho.2.1
  have hE0 := ho.2.2.1
  have hnx := hI.2.2.2.2.1
  have hct := hI.2.2.2.2.2.1
  obtain ⟨S9, eS⟩ : ∃ z : LwS, z = (LwS.mk s9.σ s9.υ s9.ς s9.hs s9.ep s9.fc s9.ml 0 s9.nx s9.ct s9.nb s9.n s9.LN s9.CM s9.ρ s9.x s9.x0 s9.f s9.gk s9.g1 s9.g2 s9.g3 s9.fb s9.fB s9.fA s9.fV s9.fP s9.fO s9.g s9.fo s9.fd) := ⟨_, rfl⟩
  refine lv_aload_n hx hb dL_law_2382 rfl (lv_at hl 4 rfl) ?_
  refine c_roVi hC.S9 (c_X7_tappedHeat l G cy a.aX a.na a.tr a.sn s9.hs a.hi a.sc s9.ep s9.fc a.ob s9.σ hI.1.1) (cwV 0 hC.S9.2.2.2.2 gL_law_X7_tappedHeat rfl rfl rfl (by decide +kernel) ⟨Nat.le_of_ble_eq_true rfl, Nat.le_of_ble_eq_true rfl⟩) PB.blind (va_recv hC.hK.1 hP (ci := 11) (q0 := offs (LCh cy a s9 s9) 0 + 0) rfl ((fl_at (Wc := (LCh cy a s9 s9)) (j := 0) (i := 0) (c := [(a.aX, .inr (11, [.ref (a.na 0), .ref (a.tr 0), .ref (a.sn 0), .int s9.hs, .ref a.hi, .ref a.sc, .int s9.ep, .int s9.fc, .ref a.ob]))]) rfl (Nat.le_of_ble_eq_true rfl)).trans rfl)) (PB.at hC.hK (PpartC (Wc := (LCh cy a s9 s9)) (cs := [[(a.aX, .inr (11, [.ref (a.na 0), .ref (a.tr 0), .ref (a.sn 0), .int s9.hs, .ref a.hi, .ref a.sc, .int s9.ep, .int s9.fc, .ref a.ob]))], sWd cy a.na s9.σ]) hP [0, 1] rfl)) rfl hl.1 rfl (Nat.le_of_ble_eq_true rfl) ⟨hcn, hsn⟩ dL_law_2383 ?_
  refine lv_aload_n hx hb dL_law_2386 rfl (lv_at hl 3 rfl) ?_
  refine lw_m (s1 := s9) (t1 := s9) (Wn := (LCh cy a s9 S9)) hC (c_X8_tappedHeat l G cy a.am a.aS a.aBf a.aAs a.aSv a.aPa a.aOu a.aTx a.aCo s9.ct s9.nb s9.LN ((s9.x0).1) s9.CM s9.hs s9.th (bI (s9.x0).2) s9.ep s9.fc s9.σ hI.1.1) (cwV 0 hC.S9.2.2.2.2 gL_law_X8_tappedHeat rfl rfl rfl (by decide +kernel) ⟨Nat.le_of_ble_eq_true rfl, Nat.le_of_ble_eq_true rfl⟩) [15, 16] rfl (by decide) (SameR.cons (SameR.cons SameR.nil)) (by subst eS; rfl) hP hD hS rfl hl.1 rfl (Nat.le_of_ble_eq_true rfl) ⟨hcn, hsn⟩ dL_law_2387 (fun H locs hP hD hS => ?_)
  refine lv_icmp_eq (tgt := 2890) hx hb dL_law_2390 (by decide) (fun c_2390 => ?_) (fun c_2390 => ?_)
  rotate_left
  · exact absurd rfl c_2390
  have hP : va_P G vwCl (fl (LCh cy a S9 S9)) H := by rw [LCh.left (s := s9) (by subst eS; rfl) (by subst eS; rfl) (by subst eS; rfl) (by subst eS; rfl) (by subst eS; rfl) (by subst eS; rfl) (by subst eS; rfl) (by subst eS; rfl) (by subst eS; rfl) (by subst eS; rfl) (by subst eS; rfl) (by subst eS; rfl) (by subst eS; rfl) (by subst eS; rfl) (by subst eS; rfl) (by subst eS; rfl) (by subst eS; rfl) (by subst eS; rfl) (by subst eS; rfl) (by subst eS; rfl) (by subst eS; rfl) (by subst eS; rfl)]; exact hP
  have hD : va_D A (fl (LCh cy a S9 S9)) := by rw [LCh.left (s := s9) (by subst eS; rfl) (by subst eS; rfl) (by subst eS; rfl) (by subst eS; rfl) (by subst eS; rfl) (by subst eS; rfl) (by subst eS; rfl) (by subst eS; rfl) (by subst eS; rfl) (by subst eS; rfl) (by subst eS; rfl) (by subst eS; rfl) (by subst eS; rfl) (by subst eS; rfl) (by subst eS; rfl) (by subst eS; rfl) (by subst eS; rfl) (by subst eS; rfl) (by subst eS; rfl) (by subst eS; rfl) (by subst eS; rfl) (by subst eS; rfl)]; exact hD
  refine W.widen (k := cells + 1) (n := slots + 6) (by omega) (by omega) ?_
  exact kk S9 H locs ls (LI.of (LI.mono hI (by omega)) (by subst eS; rfl) (by subst eS; rfl) (by subst eS; rfl) (by subst eS; rfl) (by subst eS; rfl) (by subst eS; rfl) (by subst eS; rfl) (by subst eS; rfl) (by subst eS; rfl) (by subst eS; rfl) (by subst eS; rfl) (by subst eS; rfl) (by subst eS; rfl) (by subst eS; rfl) (by subst eS; rfl)) hP hD hS (lv_sub hl [0, 1, 2, 3, 4, 5] rfl)

set_option maxRecDepth 100000 in
set_option maxHeartbeats 4000000 in
theorem case_43 {p : Program} {l : Launch} {e : Env} {s : State} {m : MethodId} {below : List Frame} {meth : Method} {cq : Code} {G : va_G} {cy : Nat → ClassId} {kS vS : Nat → Nat} {A : Nat → Prop} {a : LA} {b L q : Nat} {xs : Nat → Int32} {Q : State → Prop} {n0 cells slots : Nat} (hC : LC l p s m meth cq G cy kS vS A b L xs) (hq : 4 * q + 4 ≤ L) (hn0 : n0 < 1000000) (hc1 : cells + 1 ≤ room_1.cells) (hs1 : slots + 6 ≤ room_1.slots) (kk : LGo p l e s m below meth cq G cy A a b q Q (n0 + 300) (cells + 1) (slots + 6) 2890) : LGo p l e s m below meth cq G cy A a b q Q n0 cells slots 2395 := by
  intro s9 H locs ls hI hP hD hS hl
  obtain ⟨hx, hb, hml, hown, hts⟩ := id hC.S9
  have hL9 := hC.hL
  have hc0 : cells + 0 ≤ room_1.cells := Nat.le_of_succ_le hc1
  have hcn : cells ≤ room_1.cells := Nat.le_of_succ_le hc1
  have hs0 : slots + 0 ≤ room_1.slots := Nat.le_trans (Nat.le_add_right slots 6) hs1
  have hsn : slots ≤ room_1.slots := Nat.le_trans (Nat.le_add_right slots 6) hs1
  have ho := hI.1.1
  have hN0 := ho.1
  have hM0 := ho.2.1
  have hE0 := ho.2.2.1
  have hnx := hI.2.2.2.2.1
  have hct := hI.2.2.2.2.2.1
  obtain ⟨S9, eS⟩ : ∃ z : LwS, z = (LwS.mk s9.σ s9.υ s9.ς s9.hs s9.ep s9.fc s9.ml 0 s9.nx s9.ct s9.nb s9.n s9.LN s9.CM s9.ρ s9.x s9.x0 s9.f s9.gk s9.g1 s9.g2 s9.g3 s9.fb s9.fB s9.fA s9.fV s9.fP s9.fO s9.g s9.fo s9.fd) := ⟨_, rfl⟩
  refine lv_aload_n hx hb dL_law_2395 rfl (lv_at hl 4 rfl) ?_
  refine c_roVi hC.S9 (c_X7_lostHeat l G cy a.aX a.na a.tr a.sn s9.hs a.hi a.sc s9.ep s9.fc a.ob s9.σ hI.1.1) (cwV 0 hC.S9.2.2.2.2 gL_law_X7_lostHeat rfl rfl rfl (by decide +kernel) ⟨Nat.le_of_ble_eq_true rfl, Nat.le_of_ble_eq_true rfl⟩) PB.blind (va_recv hC.hK.1 hP (ci := 11) (q0 := offs (LCh cy a s9 s9) 0 + 0) rfl ((fl_at (Wc := (LCh cy a s9 s9)) (j := 0) (i := 0) (c := [(a.aX, .inr (11, [.ref (a.na 0), .ref (a.tr 0), .ref (a.sn 0), .int s9.hs, .ref a.hi, .ref a.sc, .int s9.ep, .int s9.fc, .ref a.ob]))]) rfl (Nat.le_of_ble_eq_true rfl)).trans rfl)) (PB.at hC.hK (PpartC (Wc := (LCh cy a s9 s9)) (cs := [[(a.aX, .inr (11, [.ref (a.na 0), .ref (a.tr 0), .ref (a.sn 0), .int s9.hs, .ref a.hi, .ref a.sc, .int s9.ep, .int s9.fc, .ref a.ob]))], sWd cy a.na s9.σ]) hP [0, 1] rfl)) rfl hl.1 rfl (Nat.le_of_ble_eq_true rfl) ⟨hcn, hsn⟩ dL_law_2396 ?_
  refine lv_aload_n hx hb dL_law_2399 rfl (lv_at hl 3 rfl) ?_
  refine lw_m (s1 := s9) (t1 := s9) (Wn := (LCh cy a s9 S9)) hC (c_X8_lostHeat l G cy a.am a.aS a.aBf a.aAs a.aSv a.aPa a.aOu a.aTx a.aCo s9.ct s9.nb s9.LN ((s9.x0).1) s9.CM s9.hs s9.th (bI (s9.x0).2) s9.ep s9.fc s9.σ hI.1.1) (cwV 0 hC.S9.2.2.2.2 gL_law_X8_lostHeat rfl rfl rfl (by decide +kernel) ⟨Nat.le_of_ble_eq_true rfl, Nat.le_of_ble_eq_true rfl⟩) [15, 16] rfl (by decide) (SameR.cons (SameR.cons SameR.nil)) (by subst eS; rfl) hP hD hS rfl hl.1 rfl (Nat.le_of_ble_eq_true rfl) ⟨hcn, hsn⟩ dL_law_2400 (fun H locs hP hD hS => ?_)
  refine lv_icmp_eq (tgt := 2890) hx hb dL_law_2403 (by decide) (fun c_2403 => ?_) (fun c_2403 => ?_)
  rotate_left
  · exact absurd rfl c_2403
  have hP : va_P G vwCl (fl (LCh cy a S9 S9)) H := by rw [LCh.left (s := s9) (by subst eS; rfl) (by subst eS; rfl) (by subst eS; rfl) (by subst eS; rfl) (by subst eS; rfl) (by subst eS; rfl) (by subst eS; rfl) (by subst eS; rfl) (by subst eS; rfl) (by subst eS; rfl) (by subst eS; rfl) (by subst eS; rfl) (by subst eS; rfl) (by subst eS; rfl) (by subst eS; rfl) (by subst eS; rfl) (by subst eS; rfl) (by subst eS; rfl) (by subst eS; rfl) (by subst eS; rfl) (by subst eS; rfl) (by subst eS; rfl)]; exact hP
  have hD : va_D A (fl (LCh cy a S9 S9)) := by rw [LCh.left (s := s9) (by subst eS; rfl) (by subst eS; rfl) (by subst eS; rfl) (by subst eS; rfl) (by subst eS; rfl) (by subst eS; rfl) (by subst eS; rfl) (by subst eS; rfl) (by subst eS; rfl) (by subst eS; rfl) (by subst eS; rfl) (by subst eS; rfl) (by subst eS; rfl) (by subst eS; rfl) (by subst eS; rfl) (by subst eS; rfl) (by subst eS; rfl) (by subst eS; rfl) (by subst eS; rfl) (by subst eS; rfl) (by subst eS; rfl) (by subst eS; rfl)]; exact hD
  refine W.widen (k := cells + 1) (n := slots + 6) (by omega) (by omega) ?_
  exact kk S9 H locs ls (LI.of (LI.mono hI (by omega)) (by subst eS; rfl) (by subst eS; rfl) (by subst eS; rfl) (by subst eS; rfl) (by subst eS; rfl) (by subst eS; rfl) (by subst eS; rfl) (by subst eS; rfl) (by subst eS; rfl) (by subst eS; rfl) (by subst eS; rfl) (by subst eS; rfl) (by subst eS; rfl) (by subst eS; rfl) (by subst eS; rfl)) hP hD hS (lv_sub hl [0, 1, 2, 3, 4, 5] rfl)

set_option maxRecDepth 100000 in
set_option maxHeartbeats 4000000 in
theorem case_44 {p : Program} {l : Launch} {e : Env} {s : State} {m : MethodId} {below : List Frame} {meth : Method} {cq : Code} {G : va_G} {cy : Nat → ClassId} {kS vS : Nat → Nat} {A : Nat → Prop} {a : LA} {b L q : Nat} {xs : Nat → Int32} {Q : State → Prop} {n0 cells slots : Nat} (hC : LC l p s m meth cq G cy kS vS A b L xs) (hq : 4 * q + 4 ≤ L) (hn0 : n0 < 1000000) (hc1 : cells + 1 ≤ room_1.cells) (hs1 : slots + 6 ≤ room_1.slots) (kk : LGo p l e s m below meth cq G cy A a b q Q (n0 + 300) (cells + 1) (slots + 6) 2890) : LGo p l e s m below meth cq G cy A a b q Q n0 cells slots 2408 := by
  intro s9 H locs ls hI hP hD hS hl
  obtain ⟨hx, hb, hml, hown, hts⟩ := id hC.S9
  have hL9 := hC.hL
  have hc0 : cells + 0 ≤ room_1.cells := Nat.le_of_succ_le hc1
  have hcn : cells ≤ room_1.cells := Nat.le_of_succ_le hc1
  have hs0 : slots + 0 ≤ room_1.slots := Nat.le_trans (Nat.le_add_right slots 6) hs1
  have hsn : slots ≤ room_1.slots := Nat.le_trans (Nat.le_add_right slots 6) hs1
  have ho := hI.1.1
  have hN0 := ho.1
  have hM0 := ho.2.1
  have hE0 := ho.2.2.1
  have hnx := hI.2.2.2.2.1
  have hct := hI.2.2.2.2.2.1
  by_cases h0 : nD s9.σ = 0
  · obtain ⟨S9, eS⟩ : ∃ z : LwS, z = (LwS.mk s9.σ s9.υ s9.ς s9.hs s9.ep s9.fc s9.ml 1 s9.nx s9.ct s9.nb s9.n s9.LN s9.CM s9.ρ s9.x s9.x0 s9.f s9.gk s9.g1 s9.g2 s9.g3 s9.fb s9.fB s9.fA s9.fV s9.fP s9.fO s9.g s9.fo s9.fd) := ⟨_, rfl⟩
    refine lv_aload_n hx hb dL_law_2408 rfl (lv_at hl 4 rfl) ?_
    refine lv_aload hx hb dL_law_2409 (lv_at hl 1 rfl) ?_
    refine lw_w (mc := 1) (ms := 6) (Wc := (LCh cy a s9 s9)) (Wn := (LCh cy a S9 s9)) hC (w_contentShare_t l G cy kS vS a.aX a.na a.tr a.sn s9.hs a.hi a.sc s9.ep s9.fc a.ob s9.σ a.oD s9.fd hC.hl9 hI.1.1 h0) (vx_cwSW 2 hC.S9.2.2.2.2 gL_law_L_contentShare rfl rfl rfl (by decide +kernel) ⟨Nat.le_of_ble_eq_true rfl, Nat.le_of_ble_eq_true rfl⟩) [0, 1, 25] rfl (by decide) (SameL.cons SameA.rf (SameL.cons SameA.rf (SameL.cons SameA.rf SameL.nil))) (by subst eS; rfl) hP hD hS rfl hl.1 rfl (Nat.le_of_ble_eq_true rfl) ⟨hc1, hs1⟩ dL_law_2411 (fun H locs hP hD hS => ?_)
    refine lv_istore (lv' := [(6, .int 1), (5, .int (nI (4 * q))), (4, .ref a.oD), (3, .ref a.oA), (2, .ref a.am), (1, .ref a.aX), (0, .ref b)]) hx hb dL_law_2414 hl (by decide) rfl (fun ls hl => ?_)
    refine lv_aload_n hx hb dL_law_2416 rfl (lv_at hl 4 rfl) ?_
    refine lw_m (s1 := S9) (t1 := s9) (Wn := (LCh cy a S9 S9)) hC (c_X8_contentShare_no l G cy a.am a.aS a.aBf a.aAs a.aSv a.aPa a.aOu a.aTx a.aCo s9.ct s9.nb s9.LN ((s9.x0).1) s9.CM s9.hs s9.th (bI (s9.x0).2) s9.ep s9.fc s9.σ hI.1.1 h0) (cwV 0 hC.S9.2.2.2.2 gL_law_X8_contentShare rfl rfl rfl (by decide +kernel) ⟨Nat.le_of_ble_eq_true rfl, Nat.le_of_ble_eq_true rfl⟩) [15, 16] rfl (by decide) (SameR.cons (SameR.cons SameR.nil)) (by subst eS; rfl) hP hD hS rfl hl.1 rfl (Nat.le_of_ble_eq_true rfl) ⟨hc1, hs1⟩ dL_law_2417 (fun H locs hP hD hS => ?_)
    refine lv_fstore (lv' := [(7, .float FP.fconst0), (6, .int 1), (5, .int (nI (4 * q))), (4, .ref a.oD), (3, .ref a.oA), (2, .ref a.am), (1, .ref a.aX), (0, .ref b)]) hx hb dL_law_2420 hl (by decide) rfl (fun ls hl => ?_)
    refine lv_aload_n hx hb dL_law_2422 rfl (lv_at hl 5 rfl) ?_
    refine lw_thrown (s1 := S9) (t1 := S9) (k := 1) hC hP (by subst eS; rfl) hl.1 (Nat.le_of_ble_eq_true rfl) ⟨hc1, hs1⟩ dL_law_2423 ?_
    refine lv_iload hx hb dL_law_2426 (lv_at hl 1 rfl) ?_
    refine lv_icmp_eq (tgt := 2433) hx hb dL_law_2428 (by decide) (fun c_2428 => ?_) (fun c_2428 => ?_)
    rotate_left
    · exact absurd c_2428 (by decide)
    refine lv_iload hx hb dL_law_2433 (lv_at hl 1 rfl) ?_
    refine lv_if_ne (tgt := 2471) hx hb dL_law_2435 (by decide) (fun c_2435 => ?_) (fun c_2435 => ?_)
    rotate_left
    · exact absurd c_2435 (by decide)
    refine lv_goto (tgt := 2890) hx hb dL_law_2471 (by decide) ?_
    exact kk S9 H locs ls (LI.of (LI.mono hI (by omega)) (by subst eS; rfl) (by subst eS; rfl) (by subst eS; rfl) (by subst eS; rfl) (by subst eS; rfl) (by subst eS; rfl) (by subst eS; rfl) (by subst eS; rfl) (by subst eS; rfl) (by subst eS; rfl) (by subst eS; rfl) (by subst eS; rfl) (by subst eS; rfl) (by subst eS; rfl) (by subst eS; rfl)) hP hD hS (lv_sub hl [2, 3, 4, 5, 6, 7] rfl)
  · obtain ⟨S9, eS⟩ : ∃ z : LwS, z = (LwS.mk s9.σ s9.υ s9.ς s9.hs s9.ep s9.fc s9.ml 0 s9.nx s9.ct s9.nb s9.n s9.LN s9.CM s9.ρ s9.x s9.x0 s9.f s9.gk s9.g1 s9.g2 s9.g3 s9.fb s9.fB s9.fA s9.fV s9.fP s9.fO s9.g s9.fo (fun _ => FP.f2d (csh s9.σ))) := ⟨_, rfl⟩
    refine lv_aload_n hx hb dL_law_2408 rfl (lv_at hl 4 rfl) ?_
    refine lv_aload hx hb dL_law_2409 (lv_at hl 1 rfl) ?_
    refine lw_w (mc := 0) (ms := 0) (Wc := (LCh cy a s9 s9)) (Wn := (LCh cy a S9 s9)) hC (w_contentShare_ok l G cy kS vS a.aX a.na a.tr a.sn s9.hs a.hi a.sc s9.ep s9.fc a.ob s9.σ a.oD s9.fd hI.1.1 h0) (vx_cwSW 2 hC.S9.2.2.2.2 gL_law_L_contentShare rfl rfl rfl (by decide +kernel) ⟨Nat.le_of_ble_eq_true rfl, Nat.le_of_ble_eq_true rfl⟩) [0, 1, 25] rfl (by decide) (SameL.cons SameA.rf (SameL.cons SameA.rf (SameL.cons SameA.one SameL.nil))) (by subst eS; rfl) hP hD hS rfl hl.1 rfl (Nat.le_of_ble_eq_true rfl) ⟨hc0, hs0⟩ dL_law_2411 (fun H locs hP hD hS => ?_)
    refine lv_istore (lv' := [(6, .int 0), (5, .int (nI (4 * q))), (4, .ref a.oD), (3, .ref a.oA), (2, .ref a.am), (1, .ref a.aX), (0, .ref b)]) hx hb dL_law_2414 hl (by decide) rfl (fun ls hl => ?_)
    refine lv_aload_n hx hb dL_law_2416 rfl (lv_at hl 4 rfl) ?_
    refine lw_m (s1 := S9) (t1 := s9) (Wn := (LCh cy a S9 S9)) hC (c_X8_contentShare_ok l G cy a.am a.aS a.aBf a.aAs a.aSv a.aPa a.aOu a.aTx a.aCo s9.ct s9.nb s9.LN ((s9.x0).1) s9.CM s9.hs s9.th (bI (s9.x0).2) s9.ep s9.fc s9.σ hI.1.1 h0) (cwV 0 hC.S9.2.2.2.2 gL_law_X8_contentShare rfl rfl rfl (by decide +kernel) ⟨Nat.le_of_ble_eq_true rfl, Nat.le_of_ble_eq_true rfl⟩) [15, 16] rfl (by decide) (SameR.cons (SameR.cons SameR.nil)) (by subst eS; rfl) hP hD hS rfl hl.1 rfl (Nat.le_of_ble_eq_true rfl) ⟨hcn, hsn⟩ dL_law_2417 (fun H locs hP hD hS => ?_)
    refine lv_fstore (lv' := [(7, .float (csh s9.σ)), (6, .int 0), (5, .int (nI (4 * q))), (4, .ref a.oD), (3, .ref a.oA), (2, .ref a.am), (1, .ref a.aX), (0, .ref b)]) hx hb dL_law_2420 hl (by decide) rfl (fun ls hl => ?_)
    refine lv_aload_n hx hb dL_law_2422 rfl (lv_at hl 5 rfl) ?_
    refine lw_thrown (s1 := S9) (t1 := S9) (k := 0) hC hP (by subst eS; rfl) hl.1 (Nat.le_of_ble_eq_true rfl) ⟨hcn, hsn⟩ dL_law_2423 ?_
    refine lv_iload hx hb dL_law_2426 (lv_at hl 1 rfl) ?_
    refine lv_icmp_eq (tgt := 2433) hx hb dL_law_2428 (by decide) (fun c_2428 => ?_) (fun c_2428 => ?_)
    rotate_left
    · exact absurd c_2428 (by decide)
    refine lv_iload hx hb dL_law_2433 (lv_at hl 1 rfl) ?_
    refine lv_if_ne (tgt := 2471) hx hb dL_law_2435 (by decide) (fun c_2435 => ?_) (fun c_2435 => ?_)
    · exact absurd c_2435 (by decide)
    refine lv_aload hx hb dL_law_2438 (lv_at hl 3 rfl) ?_
    refine lv_iconst (v := 0) hx hb dL_law_2440 (by decide) ?_
    refine lw_ldD (s1 := S9) (t1 := S9) (x := FP.f2d (csh s9.σ)) hC hP (by subst eS; rfl) dL_law_2441 ?_
    refine lv_fload hx hb dL_law_2442 (lv_at hl 0 rfl) ?_
    refine lv_f2d hx hb dL_law_2444 (cs_ok ho h0).2.1 ?_
    refine lv_dcmp hx hb dL_law_2445 ?_
    refine lv_if_eq (tgt := 2471) hx hb dL_law_2446 (by decide) (fun c_2446 => ?_) (fun c_2446 => ?_)
    rotate_left
    · exact absurd (cs_ok ho h0).2.2 c_2446
    refine lv_goto (tgt := 2890) hx hb dL_law_2471 (by decide) ?_
    refine W.widen (k := cells + 1) (n := slots + 6) (by omega) (by omega) ?_
    exact kk S9 H locs ls (LI.of (LI.mono hI (by omega)) (by subst eS; rfl) (by subst eS; rfl) (by subst eS; rfl) (by subst eS; rfl) (by subst eS; rfl) (by subst eS; rfl) (by subst eS; rfl) (by subst eS; rfl) (by subst eS; rfl) (by subst eS; rfl) (by subst eS; rfl) (by subst eS; rfl) (by subst eS; rfl) (by subst eS; rfl) (by subst eS; rfl)) hP hD hS (lv_sub hl [2, 3, 4, 5, 6, 7] rfl)

set_option maxRecDepth 100000 in
set_option maxHeartbeats 4000000 in
theorem case_45 {p : Program} {l : Launch} {e : Env} {s : State} {m : MethodId} {below : List Frame} {meth : Method} {cq : Code} {G : va_G} {cy : Nat → ClassId} {kS vS : Nat → Nat} {A : Nat → Prop} {a : LA} {b L q : Nat} {xs : Nat → Int32} {Q : State → Prop} {n0 cells slots : Nat} (hC : LC l p s m meth cq G cy kS vS A b L xs) (hq : 4 * q + 4 ≤ L) (hn0 : n0 < 1000000) (hc1 : cells + 1 ≤ room_1.cells) (hs1 : slots + 6 ≤ room_1.slots) (kk : LGo p l e s m below meth cq G cy A a b q Q (n0 + 300) (cells + 1) (slots + 6) 2890) : LGo p l e s m below meth cq G cy A a b q Q n0 cells slots 2474 := by
  intro s9 H locs ls hI hP hD hS hl
  obtain ⟨hx, hb, hml, hown, hts⟩ := id hC.S9
  have hL9 := hC.hL
  have hc0 : cells + 0 ≤ room_1.cells := Nat.le_of_succ_le hc1
  have hcn : cells ≤ room_1.cells := Nat.le_of_succ_le hc1
  have hs0 : slots + 0 ≤ room_1.slots := Nat.le_trans (Nat.le_add_right slots 6) hs1
  have hsn : slots ≤ room_1.slots := Nat.le_trans (Nat.le_add_right slots 6) hs1
  have ho := hI.1.1
  have hN0 := ho.1
  have hM0 := ho.2.1
  have hE0 := ho.2.2.1
  have hnx := hI.2.2.2.2.1
  have hct := hI.2.2.2.2.2.1
  obtain ⟨S9, eS⟩ : ∃ z : LwS, z = (LwS.mk s9.σ s9.υ s9.ς s9.hs s9.ep s9.fc s9.ml 0 s9.nx s9.ct s9.nb s9.n s9.LN s9.CM s9.ρ s9.x s9.x0 s9.f s9.gk s9.g1 s9.g2 s9.g3 s9.fb s9.fB s9.fA s9.fV s9.fP s9.fO s9.g s9.fo s9.fd) := ⟨_, rfl⟩
  refine lv_aload_n hx hb dL_law_2474 rfl (lv_at hl 4 rfl) ?_
  refine c_roVi hC.S9 (c_X7_isConsistent l G cy a.aX a.na a.tr a.sn s9.hs a.hi a.sc s9.ep s9.fc a.ob s9.σ hI.1.1 (sum_M _ _ _) (of_add hI.1.2.2.2.2.2.1) (of_add hI.1.2.2.2.2.2.2)) (cwV 0 hC.S9.2.2.2.2 gL_law_X7_isConsistent rfl rfl rfl (by decide +kernel) ⟨Nat.le_of_ble_eq_true rfl, Nat.le_of_ble_eq_true rfl⟩) PB.blind (va_recv hC.hK.1 hP (ci := 11) (q0 := offs (LCh cy a s9 s9) 0 + 0) rfl ((fl_at (Wc := (LCh cy a s9 s9)) (j := 0) (i := 0) (c := [(a.aX, .inr (11, [.ref (a.na 0), .ref (a.tr 0), .ref (a.sn 0), .int s9.hs, .ref a.hi, .ref a.sc, .int s9.ep, .int s9.fc, .ref a.ob]))]) rfl (Nat.le_of_ble_eq_true rfl)).trans rfl)) (PB.at hC.hK (PpartC (Wc := (LCh cy a s9 s9)) (cs := [[(a.aX, .inr (11, [.ref (a.na 0), .ref (a.tr 0), .ref (a.sn 0), .int s9.hs, .ref a.hi, .ref a.sc, .int s9.ep, .int s9.fc, .ref a.ob]))], sWd cy a.na s9.σ]) hP [0, 1] rfl)) rfl hl.1 rfl (Nat.le_of_ble_eq_true rfl) ⟨hcn, hsn⟩ dL_law_2475 ?_
  refine lv_aload_n hx hb dL_law_2478 rfl (lv_at hl 3 rfl) ?_
  refine lw_m (s1 := s9) (t1 := s9) (Wn := (LCh cy a s9 S9)) hC (c_X8_isConsistent l G cy a.am a.aS a.aBf a.aAs a.aSv a.aPa a.aOu a.aTx a.aCo s9.ct s9.nb s9.LN ((s9.x0).1) s9.CM s9.hs s9.th (bI (s9.x0).2) s9.ep s9.fc s9.σ hI.1.1) (cwV 0 hC.S9.2.2.2.2 gL_law_X8_isConsistent rfl rfl rfl (by decide +kernel) ⟨Nat.le_of_ble_eq_true rfl, Nat.le_of_ble_eq_true rfl⟩) [15, 16] rfl (by decide) (SameR.cons (SameR.cons SameR.nil)) (by subst eS; rfl) hP hD hS rfl hl.1 rfl (Nat.le_of_ble_eq_true rfl) ⟨hcn, hsn⟩ dL_law_2479 (fun H locs hP hD hS => ?_)
  refine lv_icmp_eq (tgt := 2890) hx hb dL_law_2482 (by decide) (fun c_2482 => ?_) (fun c_2482 => ?_)
  rotate_left
  · exact absurd c_2482 (by decide)
  have hP : va_P G vwCl (fl (LCh cy a S9 S9)) H := by rw [LCh.left (s := s9) (by subst eS; rfl) (by subst eS; rfl) (by subst eS; rfl) (by subst eS; rfl) (by subst eS; rfl) (by subst eS; rfl) (by subst eS; rfl) (by subst eS; rfl) (by subst eS; rfl) (by subst eS; rfl) (by subst eS; rfl) (by subst eS; rfl) (by subst eS; rfl) (by subst eS; rfl) (by subst eS; rfl) (by subst eS; rfl) (by subst eS; rfl) (by subst eS; rfl) (by subst eS; rfl) (by subst eS; rfl) (by subst eS; rfl) (by subst eS; rfl)]; exact hP
  have hD : va_D A (fl (LCh cy a S9 S9)) := by rw [LCh.left (s := s9) (by subst eS; rfl) (by subst eS; rfl) (by subst eS; rfl) (by subst eS; rfl) (by subst eS; rfl) (by subst eS; rfl) (by subst eS; rfl) (by subst eS; rfl) (by subst eS; rfl) (by subst eS; rfl) (by subst eS; rfl) (by subst eS; rfl) (by subst eS; rfl) (by subst eS; rfl) (by subst eS; rfl) (by subst eS; rfl) (by subst eS; rfl) (by subst eS; rfl) (by subst eS; rfl) (by subst eS; rfl) (by subst eS; rfl) (by subst eS; rfl)]; exact hD
  refine W.widen (k := cells + 1) (n := slots + 6) (by omega) (by omega) ?_
  exact kk S9 H locs ls (LI.of (LI.mono hI (by omega)) (by subst eS; rfl) (by subst eS; rfl) (by subst eS; rfl) (by subst eS; rfl) (by subst eS; rfl) (by subst eS; rfl) (by subst eS; rfl) (by subst eS; rfl) (by subst eS; rfl) (by subst eS; rfl) (by subst eS; rfl) (by subst eS; rfl) (by subst eS; rfl) (by subst eS; rfl) (by subst eS; rfl)) hP hD hS (lv_sub hl [0, 1, 2, 3, 4, 5] rfl)

set_option maxRecDepth 100000 in
set_option maxHeartbeats 4000000 in
theorem case_46 {p : Program} {l : Launch} {e : Env} {s : State} {m : MethodId} {below : List Frame} {meth : Method} {cq : Code} {G : va_G} {cy : Nat → ClassId} {kS vS : Nat → Nat} {A : Nat → Prop} {a : LA} {b L q : Nat} {xs : Nat → Int32} {Q : State → Prop} {n0 cells slots : Nat} (hC : LC l p s m meth cq G cy kS vS A b L xs) (hq : 4 * q + 4 ≤ L) (hn0 : n0 < 1000000) (hc1 : cells + 1 ≤ room_1.cells) (hs1 : slots + 6 ≤ room_1.slots) (kk : LGo p l e s m below meth cq G cy A a b q Q (n0 + 300) (cells + 1) (slots + 6) 2890) : LGo p l e s m below meth cq G cy A a b q Q n0 cells slots 2487 := by
  intro s9 H locs ls hI hP hD hS hl
  obtain ⟨hx, hb, hml, hown, hts⟩ := id hC.S9
  have hL9 := hC.hL
  have hc0 : cells + 0 ≤ room_1.cells := Nat.le_of_succ_le hc1
  have hcn : cells ≤ room_1.cells := Nat.le_of_succ_le hc1
  have hs0 : slots + 0 ≤ room_1.slots := Nat.le_trans (Nat.le_add_right slots 6) hs1
  have hsn : slots ≤ room_1.slots := Nat.le_trans (Nat.le_add_right slots 6) hs1
  have ho := hI.1.1
  have hN0 := ho.1
  have hM0 := ho.2.1
  have hE0 := ho.2.2.1
  have hnx := hI.2.2.2.2.1
  have hct := hI.2.2.2.2.2.1
  by_cases hF : inI (xs (4 * q + 1)) (nI (nB s9.σ)) = true
  · obtain ⟨j, hj, e1⟩ := ix_of (by omega) hF
    obtain ⟨S9, eS⟩ : ∃ z : LwS, z = (LwS.mk s9.σ s9.υ s9.ς s9.hs s9.ep s9.fc (if s9.nb = 0 then s9.ml else 1) 0 s9.nx s9.ct ((rnd s9.σ j).length) s9.n s9.LN s9.CM s9.ρ s9.x s9.x0 s9.f s9.gk s9.g1 s9.g2 s9.g3 (wrS s9.fb 0 (rnd s9.σ j)) s9.fB s9.fA s9.fV s9.fP (wrS s9.fO 0 (rnd s9.σ j)) s9.g (fun _ => (nI (rnd s9.σ j).length).toInt64) s9.fd) := ⟨_, rfl⟩
    refine lv_aload_n hx hb dL_law_2487 rfl (lv_at hl 4 rfl) ?_
    refine lv_aload_n hx hb dL_law_2488 rfl (lv_at hl 5 rfl) ?_
    refine lv_iload hx hb dL_law_2489 (lv_at hl 0 rfl) ?_
    refine lv_iconst (v := 1) hx hb dL_law_2491 (by decide) ?_
    refine lv_iadd hx hb dL_law_2492 ?_
    refine m_sld (v := nI j) hx hb hC.hX hC.hbl hC.hbA hS (k := 4 * q + 1) (m_add rfl rfl) (by omega) hC.hL e1 dL_law_2493 ?_
    refine lv_aload_n hx hb dL_law_2494 rfl (lv_at hl 2 rfl) ?_
    refine lw_w (mc := 0) (ms := 0) (Wc := (LCh cy a s9 s9)) (Wn := (LCh cy a S9 s9)) hC (w_renderBath_ok l G cy kS vS a.aX a.na a.tr a.sn s9.hs a.hi a.sc s9.ep s9.fc a.ob a.vb s9.nb s9.ml s9.fb s9.σ j a.oA s9.fo hI.1.1 hj hI.1.2.1 hI.2.2.2.2.2.2.2.2.2.2.2.2.1) (vx_cwSW 3 hC.S9.2.2.2.2 gL_law_L_renderBath rfl rfl rfl (by decide +kernel) ⟨Nat.le_of_ble_eq_true rfl, Nat.le_of_ble_eq_true rfl⟩) [0, 1, 13, 14, 24] rfl (by decide) (SameL.cons SameA.rf (SameL.cons SameA.rf (SameL.cons SameA.one (SameL.cons SameA.one (SameL.cons SameA.one SameL.nil))))) (by subst eS; rfl) hP hD hS rfl hl.1 rfl (Nat.le_of_ble_eq_true rfl) ⟨hc0, hs0⟩ dL_law_2495 (fun H locs hP hD hS => ?_)
    refine lv_istore (lv' := [(6, .int 0), (5, .int (nI (4 * q))), (4, .ref a.oD), (3, .ref a.oA), (2, .ref a.am), (1, .ref a.aX), (0, .ref b)]) hx hb dL_law_2498 hl (by decide) rfl (fun ls hl => ?_)
    refine lv_aload_n hx hb dL_law_2500 rfl (lv_at hl 4 rfl) ?_
    refine lv_aload_n hx hb dL_law_2501 rfl (lv_at hl 6 rfl) ?_
    refine lv_iload hx hb dL_law_2502 (lv_at hl 1 rfl) ?_
    refine lv_iconst (v := 1) hx hb dL_law_2504 (by decide) ?_
    refine lv_iadd hx hb dL_law_2505 ?_
    refine m_sld (v := nI j) hx hb hC.hX hC.hbl hC.hbA hS (k := 4 * q + 1) (m_add rfl rfl) (by omega) hC.hL e1 dL_law_2506 ?_
    refine lw_m (s1 := S9) (t1 := s9) (Wn := (LCh cy a S9 S9)) hC (c_X8_renderBath_ok l G cy a.am a.aS a.aBf a.aAs a.aSv a.aPa a.aOu a.aTx a.aCo s9.ct s9.nb s9.LN ((s9.x0).1) s9.CM s9.hs s9.th (bI (s9.x0).2) s9.ep s9.fc s9.σ j s9.fO hI.1.1 hj hI.1.2.1) (cwV 1 hC.S9.2.2.2.2 gL_law_X8_renderBath rfl rfl rfl (by decide +kernel) ⟨Nat.le_of_ble_eq_true rfl, Nat.le_of_ble_eq_true rfl⟩) [15, 16, 21] rfl (by decide) (SameR.cons (SameR.cons (SameR.cons SameR.nil))) (by subst eS; rfl) hP hD hS rfl hl.1 rfl (Nat.le_of_ble_eq_true rfl) ⟨hcn, hsn⟩ dL_law_2507 (fun H locs hP hD hS => ?_)
    refine lv_istore (lv' := [(7, .int (nI ((rnd s9.σ j).length))), (6, .int 0), (5, .int (nI (4 * q))), (4, .ref a.oD), (3, .ref a.oA), (2, .ref a.am), (1, .ref a.aX), (0, .ref b)]) hx hb dL_law_2510 hl (by decide) rfl (fun ls hl => ?_)
    refine lv_aload_n hx hb dL_law_2512 rfl (lv_at hl 5 rfl) ?_
    refine lw_thrown (s1 := S9) (t1 := S9) (k := 0) hC hP (by subst eS; rfl) hl.1 (Nat.le_of_ble_eq_true rfl) ⟨hcn, hsn⟩ dL_law_2513 ?_
    refine lv_iload hx hb dL_law_2516 (lv_at hl 1 rfl) ?_
    refine lv_icmp_eq (tgt := 2523) hx hb dL_law_2518 (by decide) (fun c_2518 => ?_) (fun c_2518 => ?_)
    rotate_left
    · exact absurd c_2518 (by decide)
    refine lv_iload hx hb dL_law_2523 (lv_at hl 1 rfl) ?_
    refine lv_if_ne (tgt := 2540) hx hb dL_law_2525 (by decide) (fun c_2525 => ?_) (fun c_2525 => ?_)
    · exact absurd c_2525 (by decide)
    refine lv_aload_n hx hb dL_law_2528 rfl (lv_at hl 4 rfl) ?_
    refine lv_iconst (v := 0) hx hb dL_law_2529 (by decide) ?_
    refine lw_ldL (s1 := S9) (t1 := S9) (x := (nI (rnd s9.σ j).length).toInt64) hC hP (by subst eS; rfl) dL_law_2530 ?_
    refine lv_iload hx hb dL_law_2531 (lv_at hl 0 rfl) ?_
    refine lv_i2l hx hb dL_law_2533 rfl ?_
    refine m_lcmp0 hx hb rfl dL_law_2534 ?_
    refine lv_if_eq (tgt := 2540) hx hb dL_law_2535 (by decide) (fun c_2535 => ?_) (fun c_2535 => ?_)
    rotate_left
    · exact absurd c_2535 (by decide)
    refine lv_goto (tgt := 2890) hx hb dL_law_2540 (by decide) ?_
    refine W.widen (k := cells + 1) (n := slots + 6) (by omega) (by omega) ?_
    exact kk S9 H locs ls (LI.of ((LI.render (m := if s9.nb = 0 then s9.ml else 1) hI hj).mono (by omega)) (by subst eS; rfl) (by subst eS; rfl) (by subst eS; rfl) (by subst eS; rfl) (by subst eS; rfl) (by subst eS; rfl) (by subst eS; rfl) (by subst eS; rfl) (by subst eS; rfl) (by subst eS; rfl) (by subst eS; rfl) (by subst eS; rfl) (by subst eS; rfl) (by subst eS; rfl) (by subst eS; rfl)) hP hD hS (lv_sub hl [2, 3, 4, 5, 6, 7] rfl)
  · obtain ⟨S9, eS⟩ : ∃ z : LwS, z = (LwS.mk s9.σ s9.υ s9.ς s9.hs s9.ep s9.fc s9.ml 1 s9.nx s9.ct s9.nb s9.n s9.LN s9.CM s9.ρ s9.x s9.x0 s9.f s9.gk s9.g1 s9.g2 s9.g3 s9.fb s9.fB s9.fA s9.fV s9.fP s9.fO s9.g s9.fo s9.fd) := ⟨_, rfl⟩
    refine lv_aload_n hx hb dL_law_2487 rfl (lv_at hl 4 rfl) ?_
    refine lv_aload_n hx hb dL_law_2488 rfl (lv_at hl 5 rfl) ?_
    refine lv_iload hx hb dL_law_2489 (lv_at hl 0 rfl) ?_
    refine lv_iconst (v := 1) hx hb dL_law_2491 (by decide) ?_
    refine lv_iadd hx hb dL_law_2492 ?_
    refine m_sld (v := xs (4 * q + 1)) hx hb hC.hX hC.hbl hC.hbA hS (k := 4 * q + 1) (m_add rfl rfl) (by omega) hC.hL rfl dL_law_2493 ?_
    refine lv_aload_n hx hb dL_law_2494 rfl (lv_at hl 2 rfl) ?_
    refine lw_w (mc := 1) (ms := 6) (Wc := (LCh cy a s9 s9)) (Wn := (LCh cy a S9 s9)) hC (w_renderBath_1 l G cy kS vS a.aX a.na a.tr a.sn s9.hs a.hi a.sc s9.ep s9.fc a.ob s9.σ (xs (4 * q + 1)) a.oA s9.fo hC.hl9 hI.1.1 hF) (vx_cwSW 3 hC.S9.2.2.2.2 gL_law_L_renderBath rfl rfl rfl (by decide +kernel) ⟨Nat.le_of_ble_eq_true rfl, Nat.le_of_ble_eq_true rfl⟩) [0, 1, 24] rfl (by decide) (SameL.cons SameA.rf (SameL.cons SameA.rf (SameL.cons SameA.rf SameL.nil))) (by subst eS; rfl) hP hD hS rfl hl.1 rfl (Nat.le_of_ble_eq_true rfl) ⟨hc1, hs1⟩ dL_law_2495 (fun H locs hP hD hS => ?_)
    refine lv_istore (lv' := [(6, .int 1), (5, .int (nI (4 * q))), (4, .ref a.oD), (3, .ref a.oA), (2, .ref a.am), (1, .ref a.aX), (0, .ref b)]) hx hb dL_law_2498 hl (by decide) rfl (fun ls hl => ?_)
    refine lv_aload_n hx hb dL_law_2500 rfl (lv_at hl 4 rfl) ?_
    refine lv_aload_n hx hb dL_law_2501 rfl (lv_at hl 6 rfl) ?_
    refine lv_iload hx hb dL_law_2502 (lv_at hl 1 rfl) ?_
    refine lv_iconst (v := 1) hx hb dL_law_2504 (by decide) ?_
    refine lv_iadd hx hb dL_law_2505 ?_
    refine m_sld (v := xs (4 * q + 1)) hx hb hC.hX hC.hbl hC.hbA hS (k := 4 * q + 1) (m_add rfl rfl) (by omega) hC.hL rfl dL_law_2506 ?_
    refine lw_m (s1 := S9) (t1 := s9) (Wn := (LCh cy a S9 S9)) hC (c_X8_renderBath_no l G cy a.am a.aS a.aBf a.aAs a.aSv a.aPa a.aOu a.aTx a.aCo s9.ct s9.nb s9.LN ((s9.x0).1) s9.CM s9.hs s9.th (bI (s9.x0).2) s9.ep s9.fc s9.σ (xs (4 * q + 1)) hI.1.1 hF) (cwV 1 hC.S9.2.2.2.2 gL_law_X8_renderBath rfl rfl rfl (by decide +kernel) ⟨Nat.le_of_ble_eq_true rfl, Nat.le_of_ble_eq_true rfl⟩) [15, 16] rfl (by decide) (SameR.cons (SameR.cons SameR.nil)) (by subst eS; rfl) hP hD hS rfl hl.1 rfl (Nat.le_of_ble_eq_true rfl) ⟨hc1, hs1⟩ dL_law_2507 (fun H locs hP hD hS => ?_)
    refine lv_istore (lv' := [(7, .int 0), (6, .int 1), (5, .int (nI (4 * q))), (4, .ref a.oD), (3, .ref a.oA), (2, .ref a.am), (1, .ref a.aX), (0, .ref b)]) hx hb dL_law_2510 hl (by decide) rfl (fun ls hl => ?_)
    refine lv_aload_n hx hb dL_law_2512 rfl (lv_at hl 5 rfl) ?_
    refine lw_thrown (s1 := S9) (t1 := S9) (k := 1) hC hP (by subst eS; rfl) hl.1 (Nat.le_of_ble_eq_true rfl) ⟨hc1, hs1⟩ dL_law_2513 ?_
    refine lv_iload hx hb dL_law_2516 (lv_at hl 1 rfl) ?_
    refine lv_icmp_eq (tgt := 2523) hx hb dL_law_2518 (by decide) (fun c_2518 => ?_) (fun c_2518 => ?_)
    rotate_left
    · exact absurd c_2518 (by decide)
    refine lv_iload hx hb dL_law_2523 (lv_at hl 1 rfl) ?_
    refine lv_if_ne (tgt := 2540) hx hb dL_law_2525 (by decide) (fun c_2525 => ?_) (fun c_2525 => ?_)
    rotate_left
    · exact absurd c_2525 (by decide)
    refine lv_goto (tgt := 2890) hx hb dL_law_2540 (by decide) ?_
    exact kk S9 H locs ls (LI.of (LI.mono hI (by omega)) (by subst eS; rfl) (by subst eS; rfl) (by subst eS; rfl) (by subst eS; rfl) (by subst eS; rfl) (by subst eS; rfl) (by subst eS; rfl) (by subst eS; rfl) (by subst eS; rfl) (by subst eS; rfl) (by subst eS; rfl) (by subst eS; rfl) (by subst eS; rfl) (by subst eS; rfl) (by subst eS; rfl)) hP hD hS (lv_sub hl [2, 3, 4, 5, 6, 7] rfl)

set_option maxRecDepth 100000 in
set_option maxHeartbeats 4000000 in
theorem case_47 {p : Program} {l : Launch} {e : Env} {s : State} {m : MethodId} {below : List Frame} {meth : Method} {cq : Code} {G : va_G} {cy : Nat → ClassId} {kS vS : Nat → Nat} {A : Nat → Prop} {a : LA} {b L q : Nat} {xs : Nat → Int32} {Q : State → Prop} {n0 cells slots : Nat} (hC : LC l p s m meth cq G cy kS vS A b L xs) (hq : 4 * q + 4 ≤ L) (hn0 : n0 < 1000000) (hc1 : cells + 1 ≤ room_1.cells) (hs1 : slots + 6 ≤ room_1.slots) (kk : LGo p l e s m below meth cq G cy A a b q Q (n0 + 300) (cells + 1) (slots + 6) 2890) : LGo p l e s m below meth cq G cy A a b q Q n0 cells slots 2543 := by
  intro s9 H locs ls hI hP hD hS hl
  obtain ⟨hx, hb, hml, hown, hts⟩ := id hC.S9
  have hL9 := hC.hL
  have hc0 : cells + 0 ≤ room_1.cells := Nat.le_of_succ_le hc1
  have hcn : cells ≤ room_1.cells := Nat.le_of_succ_le hc1
  have hs0 : slots + 0 ≤ room_1.slots := Nat.le_trans (Nat.le_add_right slots 6) hs1
  have hsn : slots ≤ room_1.slots := Nat.le_trans (Nat.le_add_right slots 6) hs1
  have ho := hI.1.1
  have hN0 := ho.1
  have hM0 := ho.2.1
  have hE0 := ho.2.2.1
  have hnx := hI.2.2.2.2.1
  have hct := hI.2.2.2.2.2.1
  have h16 := hI.2.2.2.2.2.2.2.2.2.2.2.2.1
  have hO := hI.2.2.2.2.2.2.2.2.2.2.2.2.2
  by_cases hF : inR (xs (4 * q + 1)) 0 (nI s9.nb - 1) = true
  · obtain ⟨j, hj, e1⟩ := out_nI h16 hF
    obtain ⟨hO1, hO2, hO3⟩ := hO j hj
    obtain ⟨S9, eS⟩ : ∃ z : LwS, z = (LwS.mk s9.σ s9.υ s9.ς s9.hs s9.ep s9.fc s9.ml 0 s9.nx s9.ct s9.nb s9.n s9.LN s9.CM s9.ρ s9.x s9.x0 s9.f s9.gk s9.g1 s9.g2 s9.g3 s9.fb s9.fB s9.fA s9.fV s9.fP s9.fO s9.g (fun _ => (s9.fb j).toInt64) s9.fd) := ⟨_, rfl⟩
    refine lv_aload_n hx hb dL_law_2543 rfl (lv_at hl 4 rfl) ?_
    refine lv_aload_n hx hb dL_law_2544 rfl (lv_at hl 5 rfl) ?_
    refine lv_iload hx hb dL_law_2545 (lv_at hl 0 rfl) ?_
    refine lv_iconst (v := 1) hx hb dL_law_2547 (by decide) ?_
    refine lv_iadd hx hb dL_law_2548 ?_
    refine m_sld (v := nI j) hx hb hC.hX hC.hbl hC.hbA hS (k := 4 * q + 1) (m_add rfl rfl) (by omega) hC.hL e1 dL_law_2549 ?_
    refine lv_aload_n hx hb dL_law_2550 rfl (lv_at hl 2 rfl) ?_
    refine lw_w (mc := 0) (ms := 0) (Wc := (LCh cy a s9 s9)) (Wn := (LCh cy a S9 s9)) hC (w_outputAt_ok l G cy kS vS a.aX a.na a.tr a.sn s9.hs a.hi a.sc s9.ep s9.fc a.ob a.vb s9.nb s9.ml s9.fb s9.σ j a.oA s9.fo hj h16 hO2 hO3) (vx_cwSW 3 hC.S9.2.2.2.2 gL_law_L_outputAt rfl rfl rfl (by decide +kernel) ⟨Nat.le_of_ble_eq_true rfl, Nat.le_of_ble_eq_true rfl⟩) [0, 1, 13, 14, 24] rfl (by decide) (SameL.cons SameA.rf (SameL.cons SameA.rf (SameL.cons SameA.rf (SameL.cons SameA.rf (SameL.cons SameA.one SameL.nil))))) (by subst eS; rfl) hP hD hS rfl hl.1 rfl (Nat.le_of_ble_eq_true rfl) ⟨hc0, hs0⟩ dL_law_2551 (fun H locs hP hD hS => ?_)
    refine lv_istore (lv' := [(6, .int 0), (5, .int (nI (4 * q))), (4, .ref a.oD), (3, .ref a.oA), (2, .ref a.am), (1, .ref a.aX), (0, .ref b)]) hx hb dL_law_2554 hl (by decide) rfl (fun ls hl => ?_)
    refine lv_aload_n hx hb dL_law_2556 rfl (lv_at hl 4 rfl) ?_
    refine lv_aload_n hx hb dL_law_2557 rfl (lv_at hl 6 rfl) ?_
    refine lv_iload hx hb dL_law_2558 (lv_at hl 1 rfl) ?_
    refine lv_iconst (v := 1) hx hb dL_law_2560 (by decide) ?_
    refine lv_iadd hx hb dL_law_2561 ?_
    refine m_sld (v := nI j) hx hb hC.hX hC.hbl hC.hbA hS (k := 4 * q + 1) (m_add rfl rfl) (by omega) hC.hL e1 dL_law_2562 ?_
    refine lw_m (s1 := S9) (t1 := s9) (Wn := (LCh cy a S9 S9)) hC (c_X8_outputAt_ok l G cy a.am a.aS a.aBf a.aAs a.aSv a.aPa a.aOu a.aTx a.aCo s9.ct s9.nb s9.LN ((s9.x0).1) s9.CM s9.hs s9.th (bI (s9.x0).2) s9.ep s9.fc s9.σ j s9.fO hj (by omega) (by rw [hO1]; exact hO3)) (cwV 1 hC.S9.2.2.2.2 gL_law_X8_outputAt rfl rfl rfl (by decide +kernel) ⟨Nat.le_of_ble_eq_true rfl, Nat.le_of_ble_eq_true rfl⟩) [15, 16, 21] rfl (by decide) (SameR.cons (SameR.cons (SameR.cons SameR.nil))) (by subst eS; rfl) hP hD hS rfl hl.1 rfl (Nat.le_of_ble_eq_true rfl) ⟨hcn, hsn⟩ dL_law_2563 (fun H locs hP hD hS => ?_)
    refine lv_istore (lv' := [(7, .int (s9.fO j)), (6, .int 0), (5, .int (nI (4 * q))), (4, .ref a.oD), (3, .ref a.oA), (2, .ref a.am), (1, .ref a.aX), (0, .ref b)]) hx hb dL_law_2566 hl (by decide) rfl (fun ls hl => ?_)
    refine lv_aload_n hx hb dL_law_2568 rfl (lv_at hl 5 rfl) ?_
    refine lw_thrown (s1 := S9) (t1 := S9) (k := 0) hC hP (by subst eS; rfl) hl.1 (Nat.le_of_ble_eq_true rfl) ⟨hcn, hsn⟩ dL_law_2569 ?_
    refine lv_iload hx hb dL_law_2572 (lv_at hl 1 rfl) ?_
    refine lv_icmp_eq (tgt := 2579) hx hb dL_law_2574 (by decide) (fun c_2574 => ?_) (fun c_2574 => ?_)
    rotate_left
    · exact absurd c_2574 (by decide)
    refine lv_iload hx hb dL_law_2579 (lv_at hl 1 rfl) ?_
    refine lv_if_ne (tgt := 2596) hx hb dL_law_2581 (by decide) (fun c_2581 => ?_) (fun c_2581 => ?_)
    · exact absurd c_2581 (by decide)
    refine lv_aload_n hx hb dL_law_2584 rfl (lv_at hl 4 rfl) ?_
    refine lv_iconst (v := 0) hx hb dL_law_2585 (by decide) ?_
    refine lw_ldL (s1 := S9) (t1 := S9) (x := (s9.fb j).toInt64) hC hP (by subst eS; rfl) dL_law_2586 ?_
    refine lv_iload hx hb dL_law_2587 (lv_at hl 0 rfl) ?_
    refine lv_i2l hx hb dL_law_2589 rfl ?_
    refine m_lcmp0 hx hb (congrArg Int32.toInt64 hO1.symm) dL_law_2590 ?_
    refine lv_if_eq (tgt := 2596) hx hb dL_law_2591 (by decide) (fun c_2591 => ?_) (fun c_2591 => ?_)
    rotate_left
    · exact absurd c_2591 (by decide)
    refine lv_goto (tgt := 2890) hx hb dL_law_2596 (by decide) ?_
    refine W.widen (k := cells + 1) (n := slots + 6) (by omega) (by omega) ?_
    exact kk S9 H locs ls (LI.of (LI.mono hI (by omega)) (by subst eS; rfl) (by subst eS; rfl) (by subst eS; rfl) (by subst eS; rfl) (by subst eS; rfl) (by subst eS; rfl) (by subst eS; rfl) (by subst eS; rfl) (by subst eS; rfl) (by subst eS; rfl) (by subst eS; rfl) (by subst eS; rfl) (by subst eS; rfl) (by subst eS; rfl) (by subst eS; rfl)) hP hD hS (lv_sub hl [2, 3, 4, 5, 6, 7] rfl)
  · obtain ⟨S9, eS⟩ : ∃ z : LwS, z = (LwS.mk s9.σ s9.υ s9.ς s9.hs s9.ep s9.fc s9.ml 1 s9.nx s9.ct s9.nb s9.n s9.LN s9.CM s9.ρ s9.x s9.x0 s9.f s9.gk s9.g1 s9.g2 s9.g3 s9.fb s9.fB s9.fA s9.fV s9.fP s9.fO s9.g s9.fo s9.fd) := ⟨_, rfl⟩
    refine lv_aload_n hx hb dL_law_2543 rfl (lv_at hl 4 rfl) ?_
    refine lv_aload_n hx hb dL_law_2544 rfl (lv_at hl 5 rfl) ?_
    refine lv_iload hx hb dL_law_2545 (lv_at hl 0 rfl) ?_
    refine lv_iconst (v := 1) hx hb dL_law_2547 (by decide) ?_
    refine lv_iadd hx hb dL_law_2548 ?_
    refine m_sld (v := xs (4 * q + 1)) hx hb hC.hX hC.hbl hC.hbA hS (k := 4 * q + 1) (m_add rfl rfl) (by omega) hC.hL rfl dL_law_2549 ?_
    refine lv_aload_n hx hb dL_law_2550 rfl (lv_at hl 2 rfl) ?_
    refine lw_w (mc := 1) (ms := 6) (Wc := (LCh cy a s9 s9)) (Wn := (LCh cy a S9 s9)) hC (w_outputAt_1 l G cy kS vS a.aX a.na a.tr a.sn s9.hs a.hi a.sc s9.ep s9.fc a.ob a.vb s9.nb s9.ml s9.fb s9.σ (xs (4 * q + 1)) a.oA s9.fo hC.hl9 h16 hF) (vx_cwSW 3 hC.S9.2.2.2.2 gL_law_L_outputAt rfl rfl rfl (by decide +kernel) ⟨Nat.le_of_ble_eq_true rfl, Nat.le_of_ble_eq_true rfl⟩) [0, 1, 13, 14, 24] rfl (by decide) (SameL.cons SameA.rf (SameL.cons SameA.rf (SameL.cons SameA.rf (SameL.cons SameA.rf (SameL.cons SameA.rf SameL.nil))))) (by subst eS; rfl) hP hD hS rfl hl.1 rfl (Nat.le_of_ble_eq_true rfl) ⟨hc1, hs1⟩ dL_law_2551 (fun H locs hP hD hS => ?_)
    refine lv_istore (lv' := [(6, .int 1), (5, .int (nI (4 * q))), (4, .ref a.oD), (3, .ref a.oA), (2, .ref a.am), (1, .ref a.aX), (0, .ref b)]) hx hb dL_law_2554 hl (by decide) rfl (fun ls hl => ?_)
    refine lv_aload_n hx hb dL_law_2556 rfl (lv_at hl 4 rfl) ?_
    refine lv_aload_n hx hb dL_law_2557 rfl (lv_at hl 6 rfl) ?_
    refine lv_iload hx hb dL_law_2558 (lv_at hl 1 rfl) ?_
    refine lv_iconst (v := 1) hx hb dL_law_2560 (by decide) ?_
    refine lv_iadd hx hb dL_law_2561 ?_
    refine m_sld (v := xs (4 * q + 1)) hx hb hC.hX hC.hbl hC.hbA hS (k := 4 * q + 1) (m_add rfl rfl) (by omega) hC.hL rfl dL_law_2562 ?_
    refine lw_m (s1 := S9) (t1 := s9) (Wn := (LCh cy a S9 S9)) hC (c_X8_outputAt_no l G cy a.am a.aS a.aBf a.aAs a.aSv a.aPa a.aOu a.aTx a.aCo s9.ct s9.nb s9.LN ((s9.x0).1) s9.CM s9.hs s9.th (bI (s9.x0).2) s9.ep s9.fc s9.σ (xs (4 * q + 1)) hF) (cwV 1 hC.S9.2.2.2.2 gL_law_X8_outputAt rfl rfl rfl (by decide +kernel) ⟨Nat.le_of_ble_eq_true rfl, Nat.le_of_ble_eq_true rfl⟩) [15, 16] rfl (by decide) (SameR.cons (SameR.cons SameR.nil)) (by subst eS; rfl) hP hD hS rfl hl.1 rfl (Nat.le_of_ble_eq_true rfl) ⟨hc1, hs1⟩ dL_law_2563 (fun H locs hP hD hS => ?_)
    refine lv_istore (lv' := [(7, .int 32), (6, .int 1), (5, .int (nI (4 * q))), (4, .ref a.oD), (3, .ref a.oA), (2, .ref a.am), (1, .ref a.aX), (0, .ref b)]) hx hb dL_law_2566 hl (by decide) rfl (fun ls hl => ?_)
    refine lv_aload_n hx hb dL_law_2568 rfl (lv_at hl 5 rfl) ?_
    refine lw_thrown (s1 := S9) (t1 := S9) (k := 1) hC hP (by subst eS; rfl) hl.1 (Nat.le_of_ble_eq_true rfl) ⟨hc1, hs1⟩ dL_law_2569 ?_
    refine lv_iload hx hb dL_law_2572 (lv_at hl 1 rfl) ?_
    refine lv_icmp_eq (tgt := 2579) hx hb dL_law_2574 (by decide) (fun c_2574 => ?_) (fun c_2574 => ?_)
    rotate_left
    · exact absurd c_2574 (by decide)
    refine lv_iload hx hb dL_law_2579 (lv_at hl 1 rfl) ?_
    refine lv_if_ne (tgt := 2596) hx hb dL_law_2581 (by decide) (fun c_2581 => ?_) (fun c_2581 => ?_)
    rotate_left
    · exact absurd c_2581 (by decide)
    refine lv_goto (tgt := 2890) hx hb dL_law_2596 (by decide) ?_
    exact kk S9 H locs ls (LI.of (LI.mono hI (by omega)) (by subst eS; rfl) (by subst eS; rfl) (by subst eS; rfl) (by subst eS; rfl) (by subst eS; rfl) (by subst eS; rfl) (by subst eS; rfl) (by subst eS; rfl) (by subst eS; rfl) (by subst eS; rfl) (by subst eS; rfl) (by subst eS; rfl) (by subst eS; rfl) (by subst eS; rfl) (by subst eS; rfl)) hP hD hS (lv_sub hl [2, 3, 4, 5, 6, 7] rfl)

set_option maxRecDepth 100000 in
set_option maxHeartbeats 4000000 in
theorem case_48 {p : Program} {l : Launch} {e : Env} {s : State} {m : MethodId} {below : List Frame} {meth : Method} {cq : Code} {G : va_G} {cy : Nat → ClassId} {kS vS : Nat → Nat} {A : Nat → Prop} {a : LA} {b L q : Nat} {xs : Nat → Int32} {Q : State → Prop} {n0 cells slots : Nat} (hC : LC l p s m meth cq G cy kS vS A b L xs) (hq : 4 * q + 4 ≤ L) (hn0 : n0 < 1000000) (hc1 : cells + 1 ≤ room_1.cells) (hs1 : slots + 6 ≤ room_1.slots) (kk : LGo p l e s m below meth cq G cy A a b q Q (n0 + 300) (cells + 1) (slots + 6) 2890) : LGo p l e s m below meth cq G cy A a b q Q n0 cells slots 2599 := by
  intro s9 H locs ls hI hP hD hS hl
  obtain ⟨hx, hb, hml, hown, hts⟩ := id hC.S9
  have hL9 := hC.hL
  have hc0 : cells + 0 ≤ room_1.cells := Nat.le_of_succ_le hc1
  have hcn : cells ≤ room_1.cells := Nat.le_of_succ_le hc1
  have hs0 : slots + 0 ≤ room_1.slots := Nat.le_trans (Nat.le_add_right slots 6) hs1
  have hsn : slots ≤ room_1.slots := Nat.le_trans (Nat.le_add_right slots 6) hs1
  have ho := hI.1.1
  have hN0 := ho.1
  have hM0 := ho.2.1
  have hE0 := ho.2.2.1
  have hnx := hI.2.2.2.2.1
  have hct := hI.2.2.2.2.2.1
  have hc9 := chr_v (xs (4 * q + 1))
  have hL6 := hI.2.2.2.2.2.2.2.2.2.1
  by_cases hx1 : inR (((xs (4 * q + 1)).toUInt32 % 65536).toInt32) 32 126 = true
  · by_cases h60 : s9.LN = 60
    · obtain ⟨S9, eS⟩ : ∃ z : LwS, z = (LwS.mk s9.σ s9.υ s9.ς s9.hs s9.ep s9.fc s9.ml 2 s9.nx s9.ct s9.nb s9.n s9.LN s9.CM s9.ρ s9.x s9.x0 s9.f s9.gk s9.g1 s9.g2 s9.g3 s9.fb s9.fB s9.fA s9.fV s9.fP s9.fO s9.g s9.fo s9.fd) := ⟨_, rfl⟩
      refine lv_aload_n hx hb dL_law_2599 rfl (lv_at hl 4 rfl) ?_
      refine lv_aload_n hx hb dL_law_2600 rfl (lv_at hl 5 rfl) ?_
      refine lv_iload hx hb dL_law_2601 (lv_at hl 0 rfl) ?_
      refine lv_iconst (v := 1) hx hb dL_law_2603 (by decide) ?_
      refine lv_iadd hx hb dL_law_2604 ?_
      refine m_sld (v := xs (4 * q + 1)) hx hb hC.hX hC.hbl hC.hbA hS (k := 4 * q + 1) (m_add rfl rfl) (by omega) hC.hL rfl dL_law_2605 ?_
      refine lv_i2c (v := ((xs (4 * q + 1)).toUInt32 % 65536).toInt32) hx hb dL_law_2606 rfl ?_
      refine lv_aload_n hx hb dL_law_2607 rfl (lv_at hl 2 rfl) ?_
      refine lw_w (mc := 1) (ms := 6) (Wc := (LCh cy a s9 s9)) (Wn := (LCh cy a S9 s9)) hC (w_type_2 l G cy kS vS a.aX a.na a.tr a.sn s9.hs a.hi s9.ep s9.fc a.ob a.sc a.tx a.kd a.fs a.sd a.td s9.LN s9.n s9.x s9.f (((xs (4 * q + 1)).toUInt32 % 65536).toInt32) a.oA s9.fo hC.hl9 hx1 h60) (vx_cwSW 3 hC.S9.2.2.2.2 gL_law_L_type rfl rfl rfl (by decide +kernel) ⟨Nat.le_of_ble_eq_true rfl, Nat.le_of_ble_eq_true rfl⟩) [0, 7, 8, 24] rfl (by decide) (SameL.cons SameA.rf (SameL.cons SameA.rf (SameL.cons SameA.rf (SameL.cons SameA.rf SameL.nil)))) (by subst eS; rfl) hP hD hS rfl hl.1 rfl (Nat.le_of_ble_eq_true rfl) ⟨hc1, hs1⟩ dL_law_2608 (fun H locs hP hD hS => ?_)
      refine lv_istore (lv' := [(6, .int 2), (5, .int (nI (4 * q))), (4, .ref a.oD), (3, .ref a.oA), (2, .ref a.am), (1, .ref a.aX), (0, .ref b)]) hx hb dL_law_2611 hl (by decide) rfl (fun ls hl => ?_)
      refine lv_aload_n hx hb dL_law_2613 rfl (lv_at hl 4 rfl) ?_
      refine lv_aload_n hx hb dL_law_2614 rfl (lv_at hl 6 rfl) ?_
      refine lv_iload hx hb dL_law_2615 (lv_at hl 1 rfl) ?_
      refine lv_iconst (v := 1) hx hb dL_law_2617 (by decide) ?_
      refine lv_iadd hx hb dL_law_2618 ?_
      refine m_sld (v := xs (4 * q + 1)) hx hb hC.hX hC.hbl hC.hbA hS (k := 4 * q + 1) (m_add rfl rfl) (by omega) hC.hL rfl dL_law_2619 ?_
      refine lv_i2c (v := ((xs (4 * q + 1)).toUInt32 % 65536).toInt32) hx hb dL_law_2620 rfl ?_
      refine lw_m (s1 := S9) (t1 := s9) (Wn := (LCh cy a S9 S9)) hC (c_X8_type_no2 l G cy a.am a.aS a.aBf a.aAs a.aSv a.aPa a.aOu a.aTx a.aCo s9.ct s9.nb s9.LN ((s9.x0).1) s9.CM s9.hs s9.th (bI (s9.x0).2) s9.ep s9.fc (((xs (4 * q + 1)).toUInt32 % 65536).toInt32) hx1 h60) (cwV 1 hC.S9.2.2.2.2 gL_law_X8_type rfl rfl rfl (by decide +kernel) ⟨Nat.le_of_ble_eq_true rfl, Nat.le_of_ble_eq_true rfl⟩) [15] rfl (by decide) (SameR.cons SameR.nil) (by subst eS; rfl) hP hD hS rfl hl.1 rfl (Nat.le_of_ble_eq_true rfl) ⟨hc1, hs1⟩ dL_law_2621 (fun H locs hP hD hS => ?_)
      refine lv_istore (lv' := [(7, .int 0), (6, .int 2), (5, .int (nI (4 * q))), (4, .ref a.oD), (3, .ref a.oA), (2, .ref a.am), (1, .ref a.aX), (0, .ref b)]) hx hb dL_law_2624 hl (by decide) rfl (fun ls hl => ?_)
      refine lv_aload_n hx hb dL_law_2626 rfl (lv_at hl 5 rfl) ?_
      refine lw_thrown (s1 := S9) (t1 := S9) (k := 2) hC hP (by subst eS; rfl) hl.1 (Nat.le_of_ble_eq_true rfl) ⟨hc1, hs1⟩ dL_law_2627 ?_
      refine lv_iload hx hb dL_law_2630 (lv_at hl 1 rfl) ?_
      refine lv_icmp_eq (tgt := 2637) hx hb dL_law_2632 (by decide) (fun c_2632 => ?_) (fun c_2632 => ?_)
      rotate_left
      · exact absurd c_2632 (by decide)
      refine lv_iload hx hb dL_law_2637 (lv_at hl 1 rfl) ?_
      refine lv_if_ne (tgt := 2654) hx hb dL_law_2639 (by decide) (fun c_2639 => ?_) (fun c_2639 => ?_)
      rotate_left
      · exact absurd c_2639 (by decide)
      refine lv_goto (tgt := 2890) hx hb dL_law_2654 (by decide) ?_
      exact kk S9 H locs ls (LI.of (LI.mono hI (by omega)) (by subst eS; rfl) (by subst eS; rfl) (by subst eS; rfl) (by subst eS; rfl) (by subst eS; rfl) (by subst eS; rfl) (by subst eS; rfl) (by subst eS; rfl) (by subst eS; rfl) (by subst eS; rfl) (by subst eS; rfl) (by subst eS; rfl) (by subst eS; rfl) (by subst eS; rfl) (by subst eS; rfl)) hP hD hS (lv_sub hl [2, 3, 4, 5, 6, 7] rfl)
    · obtain ⟨S9, eS⟩ : ∃ z : LwS, z = (LwS.mk s9.σ s9.υ s9.ς s9.hs s9.ep s9.fc s9.ml 0 s9.nx s9.ct s9.nb s9.n (s9.LN + 1) s9.CM s9.ρ s9.x s9.x0 (upd s9.f s9.LN (((xs (4 * q + 1)).toUInt32 % 65536).toInt32)) s9.gk s9.g1 s9.g2 s9.g3 s9.fb s9.fB s9.fA s9.fV s9.fP s9.fO s9.g (fun _ => (nI (s9.LN + 1)).toInt64) s9.fd) := ⟨_, rfl⟩
      refine lv_aload_n hx hb dL_law_2599 rfl (lv_at hl 4 rfl) ?_
      refine lv_aload_n hx hb dL_law_2600 rfl (lv_at hl 5 rfl) ?_
      refine lv_iload hx hb dL_law_2601 (lv_at hl 0 rfl) ?_
      refine lv_iconst (v := 1) hx hb dL_law_2603 (by decide) ?_
      refine lv_iadd hx hb dL_law_2604 ?_
      refine m_sld (v := xs (4 * q + 1)) hx hb hC.hX hC.hbl hC.hbA hS (k := 4 * q + 1) (m_add rfl rfl) (by omega) hC.hL rfl dL_law_2605 ?_
      refine lv_i2c (v := ((xs (4 * q + 1)).toUInt32 % 65536).toInt32) hx hb dL_law_2606 rfl ?_
      refine lv_aload_n hx hb dL_law_2607 rfl (lv_at hl 2 rfl) ?_
      refine lw_w (mc := 0) (ms := 0) (Wc := (LCh cy a s9 s9)) (Wn := (LCh cy a S9 s9)) hC (w_type_ok l G cy kS vS a.aX a.na a.tr a.sn s9.hs a.hi s9.ep s9.fc a.ob a.sc a.tx a.kd a.fs a.sd a.td s9.LN s9.n s9.x s9.f (((xs (4 * q + 1)).toUInt32 % 65536).toInt32) a.oA s9.fo hx1 (by omega) hc9) (vx_cwSW 3 hC.S9.2.2.2.2 gL_law_L_type rfl rfl rfl (by decide +kernel) ⟨Nat.le_of_ble_eq_true rfl, Nat.le_of_ble_eq_true rfl⟩) [0, 7, 8, 24] rfl (by decide) (SameL.cons SameA.rf (SameL.cons SameA.one (SameL.cons SameA.one (SameL.cons SameA.one SameL.nil)))) (by subst eS; rfl) hP hD hS rfl hl.1 rfl (Nat.le_of_ble_eq_true rfl) ⟨hc0, hs0⟩ dL_law_2608 (fun H locs hP hD hS => ?_)
      refine lv_istore (lv' := [(6, .int 0), (5, .int (nI (4 * q))), (4, .ref a.oD), (3, .ref a.oA), (2, .ref a.am), (1, .ref a.aX), (0, .ref b)]) hx hb dL_law_2611 hl (by decide) rfl (fun ls hl => ?_)
      refine lv_aload_n hx hb dL_law_2613 rfl (lv_at hl 4 rfl) ?_
      refine lv_aload_n hx hb dL_law_2614 rfl (lv_at hl 6 rfl) ?_
      refine lv_iload hx hb dL_law_2615 (lv_at hl 1 rfl) ?_
      refine lv_iconst (v := 1) hx hb dL_law_2617 (by decide) ?_
      refine lv_iadd hx hb dL_law_2618 ?_
      refine m_sld (v := xs (4 * q + 1)) hx hb hC.hX hC.hbl hC.hbA hS (k := 4 * q + 1) (m_add rfl rfl) (by omega) hC.hL rfl dL_law_2619 ?_
      refine lv_i2c (v := ((xs (4 * q + 1)).toUInt32 % 65536).toInt32) hx hb dL_law_2620 rfl ?_
      refine lw_m (s1 := S9) (t1 := s9) (Wn := (LCh cy a S9 S9)) hC (c_X8_type_ok l G cy a.am a.aS a.aBf a.aAs a.aSv a.aPa a.aOu a.aTx a.aCo s9.ct s9.nb s9.LN ((s9.x0).1) s9.CM s9.hs s9.th (bI (s9.x0).2) s9.ep s9.fc (((xs (4 * q + 1)).toUInt32 % 65536).toInt32) s9.f hx1 (by omega) hc9) (cwV 1 hC.S9.2.2.2.2 gL_law_X8_type rfl rfl rfl (by decide +kernel) ⟨Nat.le_of_ble_eq_true rfl, Nat.le_of_ble_eq_true rfl⟩) [15, 22] rfl (by decide) (SameR.cons (SameR.cons SameR.nil)) (by subst eS; rfl) hP hD hS rfl hl.1 rfl (Nat.le_of_ble_eq_true rfl) ⟨hcn, hsn⟩ dL_law_2621 (fun H locs hP hD hS => ?_)
      refine lv_istore (lv' := [(7, .int (nI (s9.LN + 1))), (6, .int 0), (5, .int (nI (4 * q))), (4, .ref a.oD), (3, .ref a.oA), (2, .ref a.am), (1, .ref a.aX), (0, .ref b)]) hx hb dL_law_2624 hl (by decide) rfl (fun ls hl => ?_)
      refine lv_aload_n hx hb dL_law_2626 rfl (lv_at hl 5 rfl) ?_
      refine lw_thrown (s1 := S9) (t1 := S9) (k := 0) hC hP (by subst eS; rfl) hl.1 (Nat.le_of_ble_eq_true rfl) ⟨hcn, hsn⟩ dL_law_2627 ?_
      refine lv_iload hx hb dL_law_2630 (lv_at hl 1 rfl) ?_
      refine lv_icmp_eq (tgt := 2637) hx hb dL_law_2632 (by decide) (fun c_2632 => ?_) (fun c_2632 => ?_)
      rotate_left
      · exact absurd c_2632 (by decide)
      refine lv_iload hx hb dL_law_2637 (lv_at hl 1 rfl) ?_
      refine lv_if_ne (tgt := 2654) hx hb dL_law_2639 (by decide) (fun c_2639 => ?_) (fun c_2639 => ?_)
      · exact absurd c_2639 (by decide)
      refine lv_aload_n hx hb dL_law_2642 rfl (lv_at hl 4 rfl) ?_
      refine lv_iconst (v := 0) hx hb dL_law_2643 (by decide) ?_
      refine lw_ldL (s1 := S9) (t1 := S9) (x := (nI (s9.LN + 1)).toInt64) hC hP (by subst eS; rfl) dL_law_2644 ?_
      refine lv_iload hx hb dL_law_2645 (lv_at hl 0 rfl) ?_
      refine lv_i2l hx hb dL_law_2647 rfl ?_
      refine m_lcmp0 hx hb rfl dL_law_2648 ?_
      refine lv_if_eq (tgt := 2654) hx hb dL_law_2649 (by decide) (fun c_2649 => ?_) (fun c_2649 => ?_)
      rotate_left
      · exact absurd c_2649 (by decide)
      refine lv_goto (tgt := 2890) hx hb dL_law_2654 (by decide) ?_
      refine W.widen (k := cells + 1) (n := slots + 6) (by omega) (by omega) ?_
      exact kk S9 H locs ls (LI.of ((LI.typed hI (by omega) hx1 hc9).mono (by omega)) (by subst eS; rfl) (by subst eS; rfl) (by subst eS; rfl) (by subst eS; rfl) (by subst eS; rfl) (by subst eS; rfl) (by subst eS; rfl) (by subst eS; rfl) (by subst eS; rfl) (by subst eS; rfl) (by subst eS; rfl) (by subst eS; rfl) (by subst eS; rfl) (by subst eS; rfl) (by subst eS; rfl)) hP hD hS (lv_sub hl [2, 3, 4, 5, 6, 7] rfl)
  · obtain ⟨S9, eS⟩ : ∃ z : LwS, z = (LwS.mk s9.σ s9.υ s9.ς s9.hs s9.ep s9.fc s9.ml 1 s9.nx s9.ct s9.nb s9.n s9.LN s9.CM s9.ρ s9.x s9.x0 s9.f s9.gk s9.g1 s9.g2 s9.g3 s9.fb s9.fB s9.fA s9.fV s9.fP s9.fO s9.g s9.fo s9.fd) := ⟨_, rfl⟩
    refine lv_aload_n hx hb dL_law_2599 rfl (lv_at hl 4 rfl) ?_
    refine lv_aload_n hx hb dL_law_2600 rfl (lv_at hl 5 rfl) ?_
    refine lv_iload hx hb dL_law_2601 (lv_at hl 0 rfl) ?_
    refine lv_iconst (v := 1) hx hb dL_law_2603 (by decide) ?_
    refine lv_iadd hx hb dL_law_2604 ?_
    refine m_sld (v := xs (4 * q + 1)) hx hb hC.hX hC.hbl hC.hbA hS (k := 4 * q + 1) (m_add rfl rfl) (by omega) hC.hL rfl dL_law_2605 ?_
    refine lv_i2c (v := ((xs (4 * q + 1)).toUInt32 % 65536).toInt32) hx hb dL_law_2606 rfl ?_
    refine lv_aload_n hx hb dL_law_2607 rfl (lv_at hl 2 rfl) ?_
    refine lw_w (mc := 1) (ms := 6) (Wc := (LCh cy a s9 s9)) (Wn := (LCh cy a S9 s9)) hC (w_type_1 l G cy kS vS a.aX a.na a.tr a.sn s9.hs a.hi s9.ep s9.fc a.ob a.sc a.tx a.kd a.fs a.sd a.td s9.LN s9.n s9.x s9.f (((xs (4 * q + 1)).toUInt32 % 65536).toInt32) a.oA s9.fo hC.hl9 hx1) (vx_cwSW 3 hC.S9.2.2.2.2 gL_law_L_type rfl rfl rfl (by decide +kernel) ⟨Nat.le_of_ble_eq_true rfl, Nat.le_of_ble_eq_true rfl⟩) [0, 7, 8, 24] rfl (by decide) (SameL.cons SameA.rf (SameL.cons SameA.rf (SameL.cons SameA.rf (SameL.cons SameA.rf SameL.nil)))) (by subst eS; rfl) hP hD hS rfl hl.1 rfl (Nat.le_of_ble_eq_true rfl) ⟨hc1, hs1⟩ dL_law_2608 (fun H locs hP hD hS => ?_)
    refine lv_istore (lv' := [(6, .int 1), (5, .int (nI (4 * q))), (4, .ref a.oD), (3, .ref a.oA), (2, .ref a.am), (1, .ref a.aX), (0, .ref b)]) hx hb dL_law_2611 hl (by decide) rfl (fun ls hl => ?_)
    refine lv_aload_n hx hb dL_law_2613 rfl (lv_at hl 4 rfl) ?_
    refine lv_aload_n hx hb dL_law_2614 rfl (lv_at hl 6 rfl) ?_
    refine lv_iload hx hb dL_law_2615 (lv_at hl 1 rfl) ?_
    refine lv_iconst (v := 1) hx hb dL_law_2617 (by decide) ?_
    refine lv_iadd hx hb dL_law_2618 ?_
    refine m_sld (v := xs (4 * q + 1)) hx hb hC.hX hC.hbl hC.hbA hS (k := 4 * q + 1) (m_add rfl rfl) (by omega) hC.hL rfl dL_law_2619 ?_
    refine lv_i2c (v := ((xs (4 * q + 1)).toUInt32 % 65536).toInt32) hx hb dL_law_2620 rfl ?_
    refine lw_m (s1 := S9) (t1 := s9) (Wn := (LCh cy a S9 S9)) hC (c_X8_type_no1 l G cy a.am a.aS a.aBf a.aAs a.aSv a.aPa a.aOu a.aTx a.aCo s9.ct s9.nb s9.LN ((s9.x0).1) s9.CM s9.hs s9.th (bI (s9.x0).2) s9.ep s9.fc (((xs (4 * q + 1)).toUInt32 % 65536).toInt32) hx1) (cwV 1 hC.S9.2.2.2.2 gL_law_X8_type rfl rfl rfl (by decide +kernel) ⟨Nat.le_of_ble_eq_true rfl, Nat.le_of_ble_eq_true rfl⟩) [15] rfl (by decide) (SameR.cons SameR.nil) (by subst eS; rfl) hP hD hS rfl hl.1 rfl (Nat.le_of_ble_eq_true rfl) ⟨hc1, hs1⟩ dL_law_2621 (fun H locs hP hD hS => ?_)
    refine lv_istore (lv' := [(7, .int 0), (6, .int 1), (5, .int (nI (4 * q))), (4, .ref a.oD), (3, .ref a.oA), (2, .ref a.am), (1, .ref a.aX), (0, .ref b)]) hx hb dL_law_2624 hl (by decide) rfl (fun ls hl => ?_)
    refine lv_aload_n hx hb dL_law_2626 rfl (lv_at hl 5 rfl) ?_
    refine lw_thrown (s1 := S9) (t1 := S9) (k := 1) hC hP (by subst eS; rfl) hl.1 (Nat.le_of_ble_eq_true rfl) ⟨hc1, hs1⟩ dL_law_2627 ?_
    refine lv_iload hx hb dL_law_2630 (lv_at hl 1 rfl) ?_
    refine lv_icmp_eq (tgt := 2637) hx hb dL_law_2632 (by decide) (fun c_2632 => ?_) (fun c_2632 => ?_)
    rotate_left
    · exact absurd c_2632 (by decide)
    refine lv_iload hx hb dL_law_2637 (lv_at hl 1 rfl) ?_
    refine lv_if_ne (tgt := 2654) hx hb dL_law_2639 (by decide) (fun c_2639 => ?_) (fun c_2639 => ?_)
    rotate_left
    · exact absurd c_2639 (by decide)
    refine lv_goto (tgt := 2890) hx hb dL_law_2654 (by decide) ?_
    exact kk S9 H locs ls (LI.of (LI.mono hI (by omega)) (by subst eS; rfl) (by subst eS; rfl) (by subst eS; rfl) (by subst eS; rfl) (by subst eS; rfl) (by subst eS; rfl) (by subst eS; rfl) (by subst eS; rfl) (by subst eS; rfl) (by subst eS; rfl) (by subst eS; rfl) (by subst eS; rfl) (by subst eS; rfl) (by subst eS; rfl) (by subst eS; rfl)) hP hD hS (lv_sub hl [2, 3, 4, 5, 6, 7] rfl)

set_option maxRecDepth 100000 in
set_option maxHeartbeats 4000000 in
theorem case_49 {p : Program} {l : Launch} {e : Env} {s : State} {m : MethodId} {below : List Frame} {meth : Method} {cq : Code} {G : va_G} {cy : Nat → ClassId} {kS vS : Nat → Nat} {A : Nat → Prop} {a : LA} {b L q : Nat} {xs : Nat → Int32} {Q : State → Prop} {n0 cells slots : Nat} (hC : LC l p s m meth cq G cy kS vS A b L xs) (hq : 4 * q + 4 ≤ L) (hn0 : n0 < 1000000) (hc1 : cells + 1 ≤ room_1.cells) (hs1 : slots + 6 ≤ room_1.slots) (kk : LGo p l e s m below meth cq G cy A a b q Q (n0 + 300) (cells + 1) (slots + 6) 2890) : LGo p l e s m below meth cq G cy A a b q Q n0 cells slots 2657 := by
  intro s9 H locs ls hI hP hD hS hl
  obtain ⟨hx, hb, hml, hown, hts⟩ := id hC.S9
  have hL9 := hC.hL
  have hc0 : cells + 0 ≤ room_1.cells := Nat.le_of_succ_le hc1
  have hcn : cells ≤ room_1.cells := Nat.le_of_succ_le hc1
  have hs0 : slots + 0 ≤ room_1.slots := Nat.le_trans (Nat.le_add_right slots 6) hs1
  have hsn : slots ≤ room_1.slots := Nat.le_trans (Nat.le_add_right slots 6) hs1
  have ho := hI.1.1
  have hN0 := ho.1
  have hM0 := ho.2.1
  have hE0 := ho.2.2.1
  have hnx := hI.2.2.2.2.1
  have hct := hI.2.2.2.2.2.1
  obtain ⟨R9, hR0⟩ : ∃ R, lpC s9.f s9.LN 13 (0, false) (0, s9.gk, s9.g1, s9.g2, s9.g3) = R := ⟨_, rfl⟩
  have hL6 := hI.2.2.2.2.2.2.2.2.2.1
  have hcz := hI.2.2.2.2.2.2.2.2.2.2.1
  have hok := hI.2.2.2.2.2.2.2.2.2.2.2.1
  obtain ⟨hp9, hc13⟩ := lpC_n (f := s9.f) (L := s9.LN) 13 (0, false) (0, s9.gk, s9.g1, s9.g2, s9.g3) (Nat.zero_le _) (Nat.zero_le _)
  rw [hR0] at hp9 hc13
  by_cases hm2 : R9.1.2 = true
  · have hm := hm2
    refine lv_aload_n hx hb dL_law_2657 rfl (lv_at hl 4 rfl) ?_
    refine lv_aload_n hx hb dL_law_2658 rfl (lv_at hl 2 rfl) ?_
    obtain ⟨S8, eC⟩ : ∃ z : LwS, z = (LwS.mk s9.σ s9.υ s9.ς s9.hs (nI R9.1.1) s9.fc s9.ml s9.th s9.nx s9.ct s9.nb R9.2.1 0 s9.CM s9.ρ R9.1 s9.x0 s9.f R9.2.2.1 R9.2.2.2.1 R9.2.2.2.2.1 R9.2.2.2.2.2 s9.fb s9.fB s9.fA s9.fV s9.fP s9.fO s9.g s9.fo s9.fd) := ⟨_, rfl⟩
    refine lw_w (mc := 1) (ms := 6) (Wc := (LCh cy a s9 s9)) (Wn := (LCh cy a S8 s9)) hC (w_runScript_1 l G cy kS vS a.aX a.na a.tr a.sn s9.hs a.hi s9.ep s9.fc a.ob a.sc a.tx a.kd a.fs a.sd a.td s9.LN s9.n s9.x s9.f s9.gk s9.g1 s9.g2 s9.g3 a.hA s9.nx s9.ct a.ra s9.ρ R9 s9.σ s9.υ n0 a.oA s9.fo hC.hl9 hI.1 (by omega) hL6 hcz hR0 hc13 hnx hct hm) (vx_cwSW 2 hC.S9.2.2.2.2 gL_law_L_runScript rfl rfl rfl (by decide +kernel) ⟨Nat.le_of_ble_eq_true rfl, Nat.le_of_ble_eq_true rfl⟩) [0, 7, 8, 9, 10, 11, 12, 1, 2, 4, 5, 6, 24] rfl (by decide) (SameL.cons SameA.one (SameL.cons SameA.one (SameL.cons SameA.rf (SameL.cons SameA.one (SameL.cons SameA.one (SameL.cons SameA.one (SameL.cons SameA.one (SameL.cons SameA.rf (SameL.cons SameA.rf (SameL.cons SameA.rf (SameL.cons SameA.rf (SameL.cons SameA.rf (SameL.cons SameA.rf SameL.nil))))))))))))) (by subst eC; rfl) hP hD hS rfl hl.1 rfl (Nat.le_of_ble_eq_true rfl) ⟨hc1, hs1⟩ dL_law_2659 (fun H locs hP hD hS => ?_)
    refine lv_istore (lv' := [(6, .int 1), (5, .int (nI (4 * q))), (4, .ref a.oD), (3, .ref a.oA), (2, .ref a.am), (1, .ref a.aX), (0, .ref b)]) hx hb dL_law_2662 hl (by decide) rfl (fun ls hl => ?_)
    refine lv_aload_n hx hb dL_law_2664 rfl (lv_at hl 4 rfl) ?_
    refine lw_we (T9 := (Nat → Int32) × Lx × Nat) (s1 := S8) (t1 := s9) (Wn := fun u9 => LCh cy a S8 (LwS.mk s9.σ s9.υ s9.ς s9.hs (nI R9.1.1) s9.fc s9.ml 1 s9.nx s9.ct s9.nb s9.n 0 u9.2.2 s9.ρ s9.x u9.2.1 s9.f s9.gk s9.g1 s9.g2 s9.g3 s9.fb s9.fB s9.fA s9.fV s9.fP s9.fO u9.1 s9.fo s9.fd)) hC (c_X8_runScript_bad l G cy kS vS a.am a.aS a.aBf a.aAs a.aSv a.aPa a.aOu a.aTx a.aCo s9.ct s9.nb s9.LN s9.CM s9.hs s9.th s9.ep s9.fc s9.σ s9.x0 s9.f s9.g s9.fB s9.fP s9.gk s9.g1 s9.g2 s9.g3 R9 n0 hI.1 (by omega) hL6 hcz hok hct hR0 hm) (cwV 0 hC.S9.2.2.2.2 gL_law_X8_runScript rfl rfl rfl (by decide +kernel) ⟨Nat.le_of_ble_eq_true rfl, Nat.le_of_ble_eq_true rfl⟩) [15, 16, 17, 20, 22, 23] rfl (by decide) (fun u9 => (SameR.cons (SameR.cons (SameR.cons (SameR.cons (SameR.cons (SameR.cons SameR.nil))))))) (fun u9 => by subst eC; rfl) hP hD hS rfl hl.1 rfl (Nat.le_of_ble_eq_true rfl) ⟨hc1, hs1⟩ dL_law_2665 (fun u9 H locs hP hD hS => ?_)
    obtain ⟨S9, eS⟩ : ∃ z : LwS, z = (LwS.mk s9.σ s9.υ s9.ς s9.hs (nI R9.1.1) s9.fc s9.ml 1 s9.nx s9.ct s9.nb R9.2.1 0 u9.2.2 s9.ρ R9.1 u9.2.1 s9.f R9.2.2.1 R9.2.2.2.1 R9.2.2.2.2.1 R9.2.2.2.2.2 s9.fb s9.fB s9.fA s9.fV s9.fP s9.fO u9.1 s9.fo s9.fd) := ⟨_, rfl⟩
    have eW : LCh cy a S9 S9 = LCh cy a S8 (LwS.mk s9.σ s9.υ s9.ς s9.hs (nI R9.1.1) s9.fc s9.ml 1 s9.nx s9.ct s9.nb s9.n 0 u9.2.2 s9.ρ s9.x u9.2.1 s9.f s9.gk s9.g1 s9.g2 s9.g3 s9.fb s9.fB s9.fA s9.fV s9.fP s9.fO u9.1 s9.fo s9.fd) := (LCh.left (by subst eS; subst eC; rfl) (by subst eS; subst eC; rfl) (by subst eS; subst eC; rfl) (by subst eS; subst eC; rfl) (by subst eS; subst eC; rfl) (by subst eS; subst eC; rfl) (by subst eS; subst eC; rfl) (by subst eS; subst eC; rfl) (by subst eS; subst eC; rfl) (by subst eS; subst eC; rfl) (by subst eS; subst eC; rfl) (by subst eS; subst eC; rfl) (by subst eS; subst eC; rfl) (by subst eS; subst eC; rfl) (by subst eS; subst eC; rfl) (by subst eS; subst eC; rfl) (by subst eS; subst eC; rfl) (by subst eS; subst eC; rfl) (by subst eS; subst eC; rfl) (by subst eS; subst eC; rfl) (by subst eS; subst eC; rfl) (by subst eS; subst eC; rfl)).trans (LCh.right (by subst eS; rfl) (by subst eS; rfl) (by subst eS; rfl) (by subst eS; rfl) (by subst eS; rfl) (by subst eS; rfl) (by subst eS; rfl) (by subst eS; rfl) (by subst eS; rfl) (by subst eS; rfl) (by subst eS; rfl) (by subst eS; rfl) (by subst eS; rfl) (by subst eS; rfl) (by subst eS; rfl) (by subst eS; rfl) (by subst eS; rfl))
    rw [← eW] at hP hD
    refine lv_istore (lv' := [(7, .int 0), (6, .int 1), (5, .int (nI (4 * q))), (4, .ref a.oD), (3, .ref a.oA), (2, .ref a.am), (1, .ref a.aX), (0, .ref b)]) hx hb dL_law_2668 hl (by decide) rfl (fun ls hl => ?_)
    refine lv_aload_n hx hb dL_law_2670 rfl (lv_at hl 5 rfl) ?_
    refine lw_thrown (s1 := S9) (t1 := S9) (k := 1) hC hP (by subst eS; rfl) hl.1 (Nat.le_of_ble_eq_true rfl) ⟨hc1, hs1⟩ dL_law_2671 ?_
    refine lv_iload hx hb dL_law_2674 (lv_at hl 1 rfl) ?_
    refine lv_icmp_eq (tgt := 2681) hx hb dL_law_2676 (by decide) (fun c_2676 => ?_) (fun c_2676 => ?_)
    rotate_left
    · exact absurd c_2676 (by decide)
    refine lv_iload hx hb dL_law_2681 (lv_at hl 1 rfl) ?_
    refine lv_if_ne (tgt := 2698) hx hb dL_law_2683 (by decide) (fun c_2683 => ?_) (fun c_2683 => ?_)
    rotate_left
    · exact absurd c_2683 (by decide)
    refine lv_goto (tgt := 2890) hx hb dL_law_2698 (by decide) ?_
    exact kk S9 H locs ls (LI.of ((LI.bad hI (e := R9.1.1) (by omega)).mono (by omega)) (by subst eS; rfl) (by subst eS; rfl) (by subst eS; rfl) (by subst eS; rfl) (by subst eS; rfl) (by subst eS; rfl) (by subst eS; rfl) (by subst eS; rfl) (by subst eS; rfl) (by subst eS; rfl) (by subst eS; rfl) (by subst eS; rfl) (by subst eS; rfl) (by subst eS; rfl) (by subst eS; rfl)) hP hD hS (lv_sub hl [2, 3, 4, 5, 6, 7] rfl)
  · have hm : R9.1.2 = false := by simpa using hm2
    obtain ⟨h9, h8⟩ := rnC_in (g := R9.2) R9.2.1 0 n0 s9.σ hI.1 (by omega)
    rcases hR8 : rnC R9.2 0 R9.2.1 s9.σ with ⟨τ9, _ | i8⟩
    · rw [hR8] at h9
      refine lv_aload_n hx hb dL_law_2657 rfl (lv_at hl 4 rfl) ?_
      refine lv_aload_n hx hb dL_law_2658 rfl (lv_at hl 2 rfl) ?_
      obtain ⟨S8, eC⟩ : ∃ z : LwS, z = (LwS.mk τ9 τ9 s9.ς s9.hs s9.ep s9.fc s9.ml s9.th ((s9.nx + 1) % 8) (kInc s9.ct) s9.nb R9.2.1 0 s9.CM (updR s9.ρ s9.nx s9.σ) R9.1 s9.x0 s9.f R9.2.2.1 R9.2.2.2.1 R9.2.2.2.2.1 R9.2.2.2.2.2 s9.fb s9.fB s9.fA s9.fV s9.fP s9.fO s9.g (fun _ => (nI R9.2.1).toInt64) s9.fd) := ⟨_, rfl⟩
      refine lw_w (mc := 0) (ms := 0) (Wc := (LCh cy a s9 s9)) (Wn := (LCh cy a S8 s9)) hC (w_runScript_ok l G cy kS vS a.aX a.na a.tr a.sn s9.hs a.hi s9.ep s9.fc a.ob a.sc a.tx a.kd a.fs a.sd a.td s9.LN s9.n s9.x s9.f s9.gk s9.g1 s9.g2 s9.g3 a.hA s9.nx s9.ct a.ra s9.ρ R9 s9.σ s9.υ n0 τ9 a.oA s9.fo hI.1 (by omega) hL6 hcz hR0 hc13 hnx hct hm hR8) (vx_cwSW 2 hC.S9.2.2.2.2 gL_law_L_runScript rfl rfl rfl (by decide +kernel) ⟨Nat.le_of_ble_eq_true rfl, Nat.le_of_ble_eq_true rfl⟩) [0, 7, 8, 9, 10, 11, 12, 1, 2, 4, 5, 6, 24] rfl (by decide) (SameL.cons SameA.rf (SameL.cons SameA.one (SameL.cons SameA.rf (SameL.cons SameA.one (SameL.cons SameA.one (SameL.cons SameA.one (SameL.cons SameA.one (SameL.cons SameA.st (SameL.cons SameA.st (SameL.cons SameA.one (SameL.cons SameA.rf (SameL.cons SameA.ring (SameL.cons SameA.one SameL.nil))))))))))))) (by subst eC; rfl) hP hD hS rfl hl.1 rfl (Nat.le_of_ble_eq_true rfl) ⟨hc0, hs0⟩ dL_law_2659 (fun H locs hP hD hS => ?_)
      refine lv_istore (lv' := [(6, .int 0), (5, .int (nI (4 * q))), (4, .ref a.oD), (3, .ref a.oA), (2, .ref a.am), (1, .ref a.aX), (0, .ref b)]) hx hb dL_law_2662 hl (by decide) rfl (fun ls hl => ?_)
      refine lv_aload_n hx hb dL_law_2664 rfl (lv_at hl 4 rfl) ?_
      refine lw_we (T9 := (Nat → Int32) × Lx × Nat) (s1 := S8) (t1 := s9) (Wn := fun u9 => LCh cy a S8 (LwS.mk τ9 s9.υ s9.ς s9.hs s9.ep s9.fc s9.ml 0 s9.nx (kInc s9.ct) s9.nb s9.n 0 u9.2.2 s9.ρ s9.x u9.2.1 s9.f s9.gk s9.g1 s9.g2 s9.g3 s9.fb (encS s9.σ) s9.fA s9.fV (pastP s9.ct s9.fP (encS s9.σ)) s9.fO u9.1 s9.fo s9.fd)) hC (c_X8_runScript_ok l G cy kS vS a.am a.aS a.aBf a.aAs a.aSv a.aPa a.aOu a.aTx a.aCo s9.ct s9.nb s9.LN s9.CM s9.hs s9.th s9.ep s9.fc s9.σ s9.x0 s9.f s9.g s9.fB s9.fP s9.gk s9.g1 s9.g2 s9.g3 R9 n0 τ9 hI.1 (by omega) hL6 hcz hok hct hR0 hm hR8) (cwV 0 hC.S9.2.2.2.2 gL_law_X8_runScript rfl rfl rfl (by decide +kernel) ⟨Nat.le_of_ble_eq_true rfl, Nat.le_of_ble_eq_true rfl⟩) [15, 16, 17, 20, 22, 23] rfl (by decide) (fun u9 => (SameR.cons (SameR.cons (SameR.cons (SameR.cons (SameR.cons (SameR.cons SameR.nil))))))) (fun u9 => by subst eC; rfl) hP hD hS rfl hl.1 rfl (Nat.le_of_ble_eq_true rfl) ⟨hcn, hsn⟩ dL_law_2665 (fun u9 H locs hP hD hS => ?_)
      obtain ⟨S9, eS⟩ : ∃ z : LwS, z = (LwS.mk τ9 τ9 s9.ς s9.hs s9.ep s9.fc s9.ml 0 ((s9.nx + 1) % 8) (kInc s9.ct) s9.nb R9.2.1 0 u9.2.2 (updR s9.ρ s9.nx s9.σ) R9.1 u9.2.1 s9.f R9.2.2.1 R9.2.2.2.1 R9.2.2.2.2.1 R9.2.2.2.2.2 s9.fb (encS s9.σ) s9.fA s9.fV (pastP s9.ct s9.fP (encS s9.σ)) s9.fO u9.1 (fun _ => (nI R9.2.1).toInt64) s9.fd) := ⟨_, rfl⟩
      have eW : LCh cy a S9 S9 = LCh cy a S8 (LwS.mk τ9 s9.υ s9.ς s9.hs s9.ep s9.fc s9.ml 0 s9.nx (kInc s9.ct) s9.nb s9.n 0 u9.2.2 s9.ρ s9.x u9.2.1 s9.f s9.gk s9.g1 s9.g2 s9.g3 s9.fb (encS s9.σ) s9.fA s9.fV (pastP s9.ct s9.fP (encS s9.σ)) s9.fO u9.1 s9.fo s9.fd) := (LCh.left (by subst eS; subst eC; rfl) (by subst eS; subst eC; rfl) (by subst eS; subst eC; rfl) (by subst eS; subst eC; rfl) (by subst eS; subst eC; rfl) (by subst eS; subst eC; rfl) (by subst eS; subst eC; rfl) (by subst eS; subst eC; rfl) (by subst eS; subst eC; rfl) (by subst eS; subst eC; rfl) (by subst eS; subst eC; rfl) (by subst eS; subst eC; rfl) (by subst eS; subst eC; rfl) (by subst eS; subst eC; rfl) (by subst eS; subst eC; rfl) (by subst eS; subst eC; rfl) (by subst eS; subst eC; rfl) (by subst eS; subst eC; rfl) (by subst eS; subst eC; rfl) (by subst eS; subst eC; rfl) (by subst eS; subst eC; rfl) (by subst eS; subst eC; rfl)).trans (LCh.right (by subst eS; rfl) (by subst eS; rfl) (by subst eS; rfl) (by subst eS; rfl) (by subst eS; rfl) (by subst eS; rfl) (by subst eS; rfl) (by subst eS; rfl) (by subst eS; rfl) (by subst eS; rfl) (by subst eS; rfl) (by subst eS; rfl) (by subst eS; rfl) (by subst eS; rfl) (by subst eS; rfl) (by subst eS; rfl) (by subst eS; rfl))
      rw [← eW] at hP hD
      refine lv_istore (lv' := [(7, .int (nI R9.2.1)), (6, .int 0), (5, .int (nI (4 * q))), (4, .ref a.oD), (3, .ref a.oA), (2, .ref a.am), (1, .ref a.aX), (0, .ref b)]) hx hb dL_law_2668 hl (by decide) rfl (fun ls hl => ?_)
      refine lv_aload_n hx hb dL_law_2670 rfl (lv_at hl 5 rfl) ?_
      refine lw_thrown (s1 := S9) (t1 := S9) (k := 0) hC hP (by subst eS; rfl) hl.1 (Nat.le_of_ble_eq_true rfl) ⟨hcn, hsn⟩ dL_law_2671 ?_
      refine lv_iload hx hb dL_law_2674 (lv_at hl 1 rfl) ?_
      refine lv_icmp_eq (tgt := 2681) hx hb dL_law_2676 (by decide) (fun c_2676 => ?_) (fun c_2676 => ?_)
      rotate_left
      · exact absurd c_2676 (by decide)
      refine lv_iload hx hb dL_law_2681 (lv_at hl 1 rfl) ?_
      refine lv_if_ne (tgt := 2698) hx hb dL_law_2683 (by decide) (fun c_2683 => ?_) (fun c_2683 => ?_)
      · exact absurd c_2683 (by decide)
      refine lv_aload_n hx hb dL_law_2686 rfl (lv_at hl 4 rfl) ?_
      refine lv_iconst (v := 0) hx hb dL_law_2687 (by decide) ?_
      refine lw_ldL (s1 := S9) (t1 := S9) (x := (nI R9.2.1).toInt64) hC hP (by subst eS; rfl) dL_law_2688 ?_
      refine lv_iload hx hb dL_law_2689 (lv_at hl 0 rfl) ?_
      refine lv_i2l hx hb dL_law_2691 rfl ?_
      refine m_lcmp0 hx hb rfl dL_law_2692 ?_
      refine lv_if_eq (tgt := 2698) hx hb dL_law_2693 (by decide) (fun c_2693 => ?_) (fun c_2693 => ?_)
      rotate_left
      · exact absurd c_2693 (by decide)
      refine lv_goto (tgt := 2890) hx hb dL_law_2698 (by decide) ?_
      refine W.widen (k := cells + 1) (n := slots + 6) (by omega) (by omega) ?_
      exact kk S9 H locs ls (LI.of (LI.ran (LI.push hI (h9.mono (by omega)))) (by subst eS; rfl) (by subst eS; rfl) (by subst eS; rfl) (by subst eS; rfl) (by subst eS; rfl) (by subst eS; rfl) (by subst eS; rfl) (by subst eS; rfl) (by subst eS; rfl) (by subst eS; rfl) (by subst eS; rfl) (by subst eS; rfl) (by subst eS; rfl) (by subst eS; rfl) (by subst eS; rfl)) hP hD hS (lv_sub hl [2, 3, 4, 5, 6, 7] rfl)
    · have h7 := h8 i8 (by rw [hR8])
      refine lv_aload_n hx hb dL_law_2657 rfl (lv_at hl 4 rfl) ?_
      refine lv_aload_n hx hb dL_law_2658 rfl (lv_at hl 2 rfl) ?_
      obtain ⟨S8, eC⟩ : ∃ z : LwS, z = (LwS.mk s9.σ τ9 s9.ς s9.hs s9.ep (nI i8) s9.ml s9.th s9.nx s9.ct s9.nb R9.2.1 0 s9.CM s9.ρ R9.1 s9.x0 s9.f R9.2.2.1 R9.2.2.2.1 R9.2.2.2.2.1 R9.2.2.2.2.2 s9.fb s9.fB s9.fA s9.fV s9.fP s9.fO s9.g s9.fo s9.fd) := ⟨_, rfl⟩
      refine lw_w (mc := 1) (ms := 6) (Wc := (LCh cy a s9 s9)) (Wn := (LCh cy a S8 s9)) hC (w_runScript_2 l G cy kS vS a.aX a.na a.tr a.sn s9.hs a.hi s9.ep s9.fc a.ob a.sc a.tx a.kd a.fs a.sd a.td s9.LN s9.n s9.x s9.f s9.gk s9.g1 s9.g2 s9.g3 a.hA s9.nx s9.ct a.ra s9.ρ R9 s9.σ s9.υ n0 τ9 i8 a.oA s9.fo hC.hl9 hI.1 (by omega) hL6 hcz hR0 hc13 hnx hct hm hR8) (vx_cwSW 2 hC.S9.2.2.2.2 gL_law_L_runScript rfl rfl rfl (by decide +kernel) ⟨Nat.le_of_ble_eq_true rfl, Nat.le_of_ble_eq_true rfl⟩) [0, 7, 8, 9, 10, 11, 12, 1, 2, 4, 5, 6, 24] rfl (by decide) (SameL.cons SameA.one (SameL.cons SameA.one (SameL.cons SameA.rf (SameL.cons SameA.one (SameL.cons SameA.one (SameL.cons SameA.one (SameL.cons SameA.one (SameL.cons SameA.rf (SameL.cons SameA.st (SameL.cons SameA.rf (SameL.cons SameA.rf (SameL.cons SameA.rf (SameL.cons SameA.rf SameL.nil))))))))))))) (by subst eC; rfl) hP hD hS rfl hl.1 rfl (Nat.le_of_ble_eq_true rfl) ⟨hc1, hs1⟩ dL_law_2659 (fun H locs hP hD hS => ?_)
      refine lv_istore (lv' := [(6, .int 2), (5, .int (nI (4 * q))), (4, .ref a.oD), (3, .ref a.oA), (2, .ref a.am), (1, .ref a.aX), (0, .ref b)]) hx hb dL_law_2662 hl (by decide) rfl (fun ls hl => ?_)
      refine lv_aload_n hx hb dL_law_2664 rfl (lv_at hl 4 rfl) ?_
      refine lw_we (T9 := (Nat → Int32) × Lx × Nat) (s1 := S8) (t1 := s9) (Wn := fun u9 => LCh cy a S8 (LwS.mk s9.σ s9.υ s9.ς s9.hs s9.ep (nI i8) s9.ml 2 s9.nx s9.ct s9.nb s9.n 0 u9.2.2 s9.ρ s9.x u9.2.1 s9.f s9.gk s9.g1 s9.g2 s9.g3 s9.fb (encS s9.σ) s9.fA s9.fV s9.fP s9.fO u9.1 s9.fo s9.fd)) hC (c_X8_runScript_no l G cy kS vS a.am a.aS a.aBf a.aAs a.aSv a.aPa a.aOu a.aTx a.aCo s9.ct s9.nb s9.LN s9.CM s9.hs s9.th s9.ep s9.fc s9.σ s9.x0 s9.f s9.g s9.fB s9.fP s9.gk s9.g1 s9.g2 s9.g3 R9 n0 τ9 i8 hI.1 (by omega) hL6 hcz hok hct hR0 hm hR8) (cwV 0 hC.S9.2.2.2.2 gL_law_X8_runScript rfl rfl rfl (by decide +kernel) ⟨Nat.le_of_ble_eq_true rfl, Nat.le_of_ble_eq_true rfl⟩) [15, 16, 17, 20, 22, 23] rfl (by decide) (fun u9 => (SameR.cons (SameR.cons (SameR.cons (SameR.cons (SameR.cons (SameR.cons SameR.nil))))))) (fun u9 => by subst eC; rfl) hP hD hS rfl hl.1 rfl (Nat.le_of_ble_eq_true rfl) ⟨hc1, hs1⟩ dL_law_2665 (fun u9 H locs hP hD hS => ?_)
      obtain ⟨S9, eS⟩ : ∃ z : LwS, z = (LwS.mk s9.σ τ9 s9.ς s9.hs s9.ep (nI i8) s9.ml 2 s9.nx s9.ct s9.nb R9.2.1 0 u9.2.2 s9.ρ R9.1 u9.2.1 s9.f R9.2.2.1 R9.2.2.2.1 R9.2.2.2.2.1 R9.2.2.2.2.2 s9.fb (encS s9.σ) s9.fA s9.fV s9.fP s9.fO u9.1 s9.fo s9.fd) := ⟨_, rfl⟩
      have eW : LCh cy a S9 S9 = LCh cy a S8 (LwS.mk s9.σ s9.υ s9.ς s9.hs s9.ep (nI i8) s9.ml 2 s9.nx s9.ct s9.nb s9.n 0 u9.2.2 s9.ρ s9.x u9.2.1 s9.f s9.gk s9.g1 s9.g2 s9.g3 s9.fb (encS s9.σ) s9.fA s9.fV s9.fP s9.fO u9.1 s9.fo s9.fd) := (LCh.left (by subst eS; subst eC; rfl) (by subst eS; subst eC; rfl) (by subst eS; subst eC; rfl) (by subst eS; subst eC; rfl) (by subst eS; subst eC; rfl) (by subst eS; subst eC; rfl) (by subst eS; subst eC; rfl) (by subst eS; subst eC; rfl) (by subst eS; subst eC; rfl) (by subst eS; subst eC; rfl) (by subst eS; subst eC; rfl) (by subst eS; subst eC; rfl) (by subst eS; subst eC; rfl) (by subst eS; subst eC; rfl) (by subst eS; subst eC; rfl) (by subst eS; subst eC; rfl) (by subst eS; subst eC; rfl) (by subst eS; subst eC; rfl) (by subst eS; subst eC; rfl) (by subst eS; subst eC; rfl) (by subst eS; subst eC; rfl) (by subst eS; subst eC; rfl)).trans (LCh.right (by subst eS; rfl) (by subst eS; rfl) (by subst eS; rfl) (by subst eS; rfl) (by subst eS; rfl) (by subst eS; rfl) (by subst eS; rfl) (by subst eS; rfl) (by subst eS; rfl) (by subst eS; rfl) (by subst eS; rfl) (by subst eS; rfl) (by subst eS; rfl) (by subst eS; rfl) (by subst eS; rfl) (by subst eS; rfl) (by subst eS; rfl))
      rw [← eW] at hP hD
      refine lv_istore (lv' := [(7, .int 0), (6, .int 2), (5, .int (nI (4 * q))), (4, .ref a.oD), (3, .ref a.oA), (2, .ref a.am), (1, .ref a.aX), (0, .ref b)]) hx hb dL_law_2668 hl (by decide) rfl (fun ls hl => ?_)
      refine lv_aload_n hx hb dL_law_2670 rfl (lv_at hl 5 rfl) ?_
      refine lw_thrown (s1 := S9) (t1 := S9) (k := 2) hC hP (by subst eS; rfl) hl.1 (Nat.le_of_ble_eq_true rfl) ⟨hc1, hs1⟩ dL_law_2671 ?_
      refine lv_iload hx hb dL_law_2674 (lv_at hl 1 rfl) ?_
      refine lv_icmp_eq (tgt := 2681) hx hb dL_law_2676 (by decide) (fun c_2676 => ?_) (fun c_2676 => ?_)
      rotate_left
      · exact absurd c_2676 (by decide)
      refine lv_iload hx hb dL_law_2681 (lv_at hl 1 rfl) ?_
      refine lv_if_ne (tgt := 2698) hx hb dL_law_2683 (by decide) (fun c_2683 => ?_) (fun c_2683 => ?_)
      rotate_left
      · exact absurd c_2683 (by decide)
      refine lv_goto (tgt := 2890) hx hb dL_law_2698 (by decide) ?_
      exact kk S9 H locs ls (LI.of ((LI.failed hI (e := i8) (by omega)).mono (by omega)) (by subst eS; rfl) (by subst eS; rfl) (by subst eS; rfl) (by subst eS; rfl) (by subst eS; rfl) (by subst eS; rfl) (by subst eS; rfl) (by subst eS; rfl) (by subst eS; rfl) (by subst eS; rfl) (by subst eS; rfl) (by subst eS; rfl) (by subst eS; rfl) (by subst eS; rfl) (by subst eS; rfl)) hP hD hS (lv_sub hl [2, 3, 4, 5, 6, 7] rfl)

set_option maxRecDepth 100000 in
set_option maxHeartbeats 4000000 in
theorem case_50 {p : Program} {l : Launch} {e : Env} {s : State} {m : MethodId} {below : List Frame} {meth : Method} {cq : Code} {G : va_G} {cy : Nat → ClassId} {kS vS : Nat → Nat} {A : Nat → Prop} {a : LA} {b L q : Nat} {xs : Nat → Int32} {Q : State → Prop} {n0 cells slots : Nat} (hC : LC l p s m meth cq G cy kS vS A b L xs) (hq : 4 * q + 4 ≤ L) (hn0 : n0 < 1000000) (hc1 : cells + 1 ≤ room_1.cells) (hs1 : slots + 6 ≤ room_1.slots) (kk : LGo p l e s m below meth cq G cy A a b q Q (n0 + 300) (cells + 1) (slots + 6) 2890) : LGo p l e s m below meth cq G cy A a b q Q n0 cells slots 2701 := by
  intro s9 H locs ls hI hP hD hS hl
  obtain ⟨hx, hb, hml, hown, hts⟩ := id hC.S9
  have hL9 := hC.hL
  have hc0 : cells + 0 ≤ room_1.cells := Nat.le_of_succ_le hc1
  have hcn : cells ≤ room_1.cells := Nat.le_of_succ_le hc1
  have hs0 : slots + 0 ≤ room_1.slots := Nat.le_trans (Nat.le_add_right slots 6) hs1
  have hsn : slots ≤ room_1.slots := Nat.le_trans (Nat.le_add_right slots 6) hs1
  have ho := hI.1.1
  have hN0 := ho.1
  have hM0 := ho.2.1
  have hE0 := ho.2.2.1
  have hnx := hI.2.2.2.2.1
  have hct := hI.2.2.2.2.2.1
  rcases hI.2.2.2.2.2.2.2.1 with h1 | ⟨j, hj, h1⟩
  · obtain ⟨S9, eS⟩ : ∃ z : LwS, z = (LwS.mk s9.σ s9.υ s9.ς s9.hs s9.ep s9.fc s9.ml 1 s9.nx s9.ct s9.nb s9.n s9.LN s9.CM s9.ρ s9.x s9.x0 s9.f s9.gk s9.g1 s9.g2 s9.g3 s9.fb s9.fB s9.fA s9.fV s9.fP s9.fO s9.g s9.fo s9.fd) := ⟨_, rfl⟩
    refine lv_aload_n hx hb dL_law_2701 rfl (lv_at hl 4 rfl) ?_
    refine lv_aload_n hx hb dL_law_2702 rfl (lv_at hl 2 rfl) ?_
    refine lw_w (mc := 1) (ms := 6) (Wc := (LCh cy a s9 s9)) (Wn := (LCh cy a S9 s9)) hC (w_errorPosition_t l G cy kS vS a.aX a.na a.tr a.sn s9.hs a.hi a.sc s9.ep s9.fc a.ob s9.σ a.oA s9.fo hC.hl9 hI.1.1 h1) (vx_cwSW 2 hC.S9.2.2.2.2 gL_law_L_errorPosition rfl rfl rfl (by decide +kernel) ⟨Nat.le_of_ble_eq_true rfl, Nat.le_of_ble_eq_true rfl⟩) [0, 1, 24] rfl (by decide) (SameL.cons SameA.rf (SameL.cons SameA.rf (SameL.cons SameA.rf SameL.nil))) (by subst eS; rfl) hP hD hS rfl hl.1 rfl (Nat.le_of_ble_eq_true rfl) ⟨hc1, hs1⟩ dL_law_2703 (fun H locs hP hD hS => ?_)
    refine lv_istore (lv' := [(6, .int 1), (5, .int (nI (4 * q))), (4, .ref a.oD), (3, .ref a.oA), (2, .ref a.am), (1, .ref a.aX), (0, .ref b)]) hx hb dL_law_2706 hl (by decide) rfl (fun ls hl => ?_)
    refine lv_aload_n hx hb dL_law_2708 rfl (lv_at hl 4 rfl) ?_
    refine lw_m (s1 := S9) (t1 := s9) (Wn := (LCh cy a S9 S9)) hC (c_X8_errorPosition_no l G cy a.am a.aS a.aBf a.aAs a.aSv a.aPa a.aOu a.aTx a.aCo s9.ct s9.nb s9.LN ((s9.x0).1) s9.CM s9.hs s9.th (bI (s9.x0).2) s9.ep s9.fc s9.σ (by rw [h1]; decide)) (cwV 0 hC.S9.2.2.2.2 gL_law_X8_errorPosition rfl rfl rfl (by decide +kernel) ⟨Nat.le_of_ble_eq_true rfl, Nat.le_of_ble_eq_true rfl⟩) [15, 16] rfl (by decide) (SameR.cons (SameR.cons SameR.nil)) (by subst eS; rfl) hP hD hS rfl hl.1 rfl (Nat.le_of_ble_eq_true rfl) ⟨hc1, hs1⟩ dL_law_2709 (fun H locs hP hD hS => ?_)
    refine lv_istore (lv' := [(7, .int 0), (6, .int 1), (5, .int (nI (4 * q))), (4, .ref a.oD), (3, .ref a.oA), (2, .ref a.am), (1, .ref a.aX), (0, .ref b)]) hx hb dL_law_2712 hl (by decide) rfl (fun ls hl => ?_)
    refine lv_aload_n hx hb dL_law_2714 rfl (lv_at hl 5 rfl) ?_
    refine lw_thrown (s1 := S9) (t1 := S9) (k := 1) hC hP (by subst eS; rfl) hl.1 (Nat.le_of_ble_eq_true rfl) ⟨hc1, hs1⟩ dL_law_2715 ?_
    refine lv_iload hx hb dL_law_2718 (lv_at hl 1 rfl) ?_
    refine lv_icmp_eq (tgt := 2725) hx hb dL_law_2720 (by decide) (fun c_2720 => ?_) (fun c_2720 => ?_)
    rotate_left
    · exact absurd c_2720 (by decide)
    refine lv_iload hx hb dL_law_2725 (lv_at hl 1 rfl) ?_
    refine lv_if_ne (tgt := 2742) hx hb dL_law_2727 (by decide) (fun c_2727 => ?_) (fun c_2727 => ?_)
    rotate_left
    · exact absurd c_2727 (by decide)
    refine lv_goto (tgt := 2890) hx hb dL_law_2742 (by decide) ?_
    exact kk S9 H locs ls (LI.of (LI.mono hI (by omega)) (by subst eS; rfl) (by subst eS; rfl) (by subst eS; rfl) (by subst eS; rfl) (by subst eS; rfl) (by subst eS; rfl) (by subst eS; rfl) (by subst eS; rfl) (by subst eS; rfl) (by subst eS; rfl) (by subst eS; rfl) (by subst eS; rfl) (by subst eS; rfl) (by subst eS; rfl) (by subst eS; rfl)) hP hD hS (lv_sub hl [2, 3, 4, 5, 6, 7] rfl)
  · have h2 : ¬ s9.ep < 0 := by rw [h1, Int32.lt_iff_toInt_lt, nI_toInt (by omega), Int32.toInt_zero]; omega
    have h3 : ¬ s9.ep = -1 := fun z => h2 (by rw [z]; decide)
    obtain ⟨S9, eS⟩ : ∃ z : LwS, z = (LwS.mk s9.σ s9.υ s9.ς s9.hs s9.ep s9.fc s9.ml 0 s9.nx s9.ct s9.nb s9.n s9.LN s9.CM s9.ρ s9.x s9.x0 s9.f s9.gk s9.g1 s9.g2 s9.g3 s9.fb s9.fB s9.fA s9.fV s9.fP s9.fO s9.g (fun _ => (s9.ep).toInt64) s9.fd) := ⟨_, rfl⟩
    refine lv_aload_n hx hb dL_law_2701 rfl (lv_at hl 4 rfl) ?_
    refine lv_aload_n hx hb dL_law_2702 rfl (lv_at hl 2 rfl) ?_
    refine lw_w (mc := 0) (ms := 0) (Wc := (LCh cy a s9 s9)) (Wn := (LCh cy a S9 s9)) hC (w_errorPosition_ok l G cy kS vS a.aX a.na a.tr a.sn s9.hs a.hi a.sc s9.ep s9.fc a.ob s9.σ a.oA s9.fo hI.1.1 h3) (vx_cwSW 2 hC.S9.2.2.2.2 gL_law_L_errorPosition rfl rfl rfl (by decide +kernel) ⟨Nat.le_of_ble_eq_true rfl, Nat.le_of_ble_eq_true rfl⟩) [0, 1, 24] rfl (by decide) (SameL.cons SameA.rf (SameL.cons SameA.rf (SameL.cons SameA.one SameL.nil))) (by subst eS; rfl) hP hD hS rfl hl.1 rfl (Nat.le_of_ble_eq_true rfl) ⟨hc0, hs0⟩ dL_law_2703 (fun H locs hP hD hS => ?_)
    refine lv_istore (lv' := [(6, .int 0), (5, .int (nI (4 * q))), (4, .ref a.oD), (3, .ref a.oA), (2, .ref a.am), (1, .ref a.aX), (0, .ref b)]) hx hb dL_law_2706 hl (by decide) rfl (fun ls hl => ?_)
    refine lv_aload_n hx hb dL_law_2708 rfl (lv_at hl 4 rfl) ?_
    refine lw_m (s1 := S9) (t1 := s9) (Wn := (LCh cy a S9 S9)) hC (c_X8_errorPosition_ok l G cy a.am a.aS a.aBf a.aAs a.aSv a.aPa a.aOu a.aTx a.aCo s9.ct s9.nb s9.LN ((s9.x0).1) s9.CM s9.hs s9.th (bI (s9.x0).2) s9.ep s9.fc s9.σ h2) (cwV 0 hC.S9.2.2.2.2 gL_law_X8_errorPosition rfl rfl rfl (by decide +kernel) ⟨Nat.le_of_ble_eq_true rfl, Nat.le_of_ble_eq_true rfl⟩) [15, 16] rfl (by decide) (SameR.cons (SameR.cons SameR.nil)) (by subst eS; rfl) hP hD hS rfl hl.1 rfl (Nat.le_of_ble_eq_true rfl) ⟨hcn, hsn⟩ dL_law_2709 (fun H locs hP hD hS => ?_)
    refine lv_istore (lv' := [(7, .int s9.ep), (6, .int 0), (5, .int (nI (4 * q))), (4, .ref a.oD), (3, .ref a.oA), (2, .ref a.am), (1, .ref a.aX), (0, .ref b)]) hx hb dL_law_2712 hl (by decide) rfl (fun ls hl => ?_)
    refine lv_aload_n hx hb dL_law_2714 rfl (lv_at hl 5 rfl) ?_
    refine lw_thrown (s1 := S9) (t1 := S9) (k := 0) hC hP (by subst eS; rfl) hl.1 (Nat.le_of_ble_eq_true rfl) ⟨hcn, hsn⟩ dL_law_2715 ?_
    refine lv_iload hx hb dL_law_2718 (lv_at hl 1 rfl) ?_
    refine lv_icmp_eq (tgt := 2725) hx hb dL_law_2720 (by decide) (fun c_2720 => ?_) (fun c_2720 => ?_)
    rotate_left
    · exact absurd c_2720 (by decide)
    refine lv_iload hx hb dL_law_2725 (lv_at hl 1 rfl) ?_
    refine lv_if_ne (tgt := 2742) hx hb dL_law_2727 (by decide) (fun c_2727 => ?_) (fun c_2727 => ?_)
    · exact absurd c_2727 (by decide)
    refine lv_aload_n hx hb dL_law_2730 rfl (lv_at hl 4 rfl) ?_
    refine lv_iconst (v := 0) hx hb dL_law_2731 (by decide) ?_
    refine lw_ldL (s1 := S9) (t1 := S9) (x := (s9.ep).toInt64) hC hP (by subst eS; rfl) dL_law_2732 ?_
    refine lv_iload hx hb dL_law_2733 (lv_at hl 0 rfl) ?_
    refine lv_i2l hx hb dL_law_2735 rfl ?_
    refine m_lcmp0 hx hb rfl dL_law_2736 ?_
    refine lv_if_eq (tgt := 2742) hx hb dL_law_2737 (by decide) (fun c_2737 => ?_) (fun c_2737 => ?_)
    rotate_left
    · exact absurd c_2737 (by decide)
    refine lv_goto (tgt := 2890) hx hb dL_law_2742 (by decide) ?_
    refine W.widen (k := cells + 1) (n := slots + 6) (by omega) (by omega) ?_
    exact kk S9 H locs ls (LI.of (LI.mono hI (by omega)) (by subst eS; rfl) (by subst eS; rfl) (by subst eS; rfl) (by subst eS; rfl) (by subst eS; rfl) (by subst eS; rfl) (by subst eS; rfl) (by subst eS; rfl) (by subst eS; rfl) (by subst eS; rfl) (by subst eS; rfl) (by subst eS; rfl) (by subst eS; rfl) (by subst eS; rfl) (by subst eS; rfl)) hP hD hS (lv_sub hl [2, 3, 4, 5, 6, 7] rfl)

set_option maxRecDepth 100000 in
set_option maxHeartbeats 4000000 in
theorem case_51 {p : Program} {l : Launch} {e : Env} {s : State} {m : MethodId} {below : List Frame} {meth : Method} {cq : Code} {G : va_G} {cy : Nat → ClassId} {kS vS : Nat → Nat} {A : Nat → Prop} {a : LA} {b L q : Nat} {xs : Nat → Int32} {Q : State → Prop} {n0 cells slots : Nat} (hC : LC l p s m meth cq G cy kS vS A b L xs) (hq : 4 * q + 4 ≤ L) (hn0 : n0 < 1000000) (hc1 : cells + 1 ≤ room_1.cells) (hs1 : slots + 6 ≤ room_1.slots) (kk : LGo p l e s m below meth cq G cy A a b q Q (n0 + 300) (cells + 1) (slots + 6) 2890) : LGo p l e s m below meth cq G cy A a b q Q n0 cells slots 2745 := by
  intro s9 H locs ls hI hP hD hS hl
  obtain ⟨hx, hb, hml, hown, hts⟩ := id hC.S9
  have hL9 := hC.hL
  have hc0 : cells + 0 ≤ room_1.cells := Nat.le_of_succ_le hc1
  have hcn : cells ≤ room_1.cells := Nat.le_of_succ_le hc1
  have hs0 : slots + 0 ≤ room_1.slots := Nat.le_trans (Nat.le_add_right slots 6) hs1
  have hsn : slots ≤ room_1.slots := Nat.le_trans (Nat.le_add_right slots 6) hs1
  have ho := hI.1.1
  have hN0 := ho.1
  have hM0 := ho.2.1
  have hE0 := ho.2.2.1
  have hnx := hI.2.2.2.2.1
  have hct := hI.2.2.2.2.2.1
  rcases hI.2.2.2.2.2.2.2.2.1 with h1 | ⟨j, hj, h1⟩
  · obtain ⟨S9, eS⟩ : ∃ z : LwS, z = (LwS.mk s9.σ s9.υ s9.ς s9.hs s9.ep s9.fc s9.ml 1 s9.nx s9.ct s9.nb s9.n s9.LN s9.CM s9.ρ s9.x s9.x0 s9.f s9.gk s9.g1 s9.g2 s9.g3 s9.fb s9.fB s9.fA s9.fV s9.fP s9.fO s9.g s9.fo s9.fd) := ⟨_, rfl⟩
    refine lv_aload_n hx hb dL_law_2745 rfl (lv_at hl 4 rfl) ?_
    refine lv_aload_n hx hb dL_law_2746 rfl (lv_at hl 2 rfl) ?_
    refine lw_w (mc := 1) (ms := 6) (Wc := (LCh cy a s9 s9)) (Wn := (LCh cy a S9 s9)) hC (w_failedCommand_t l G cy kS vS a.aX a.na a.tr a.sn s9.hs a.hi a.sc s9.ep s9.fc a.ob s9.σ a.oA s9.fo hC.hl9 hI.1.1 h1) (vx_cwSW 2 hC.S9.2.2.2.2 gL_law_L_failedCommand rfl rfl rfl (by decide +kernel) ⟨Nat.le_of_ble_eq_true rfl, Nat.le_of_ble_eq_true rfl⟩) [0, 1, 24] rfl (by decide) (SameL.cons SameA.rf (SameL.cons SameA.rf (SameL.cons SameA.rf SameL.nil))) (by subst eS; rfl) hP hD hS rfl hl.1 rfl (Nat.le_of_ble_eq_true rfl) ⟨hc1, hs1⟩ dL_law_2747 (fun H locs hP hD hS => ?_)
    refine lv_istore (lv' := [(6, .int 1), (5, .int (nI (4 * q))), (4, .ref a.oD), (3, .ref a.oA), (2, .ref a.am), (1, .ref a.aX), (0, .ref b)]) hx hb dL_law_2750 hl (by decide) rfl (fun ls hl => ?_)
    refine lv_aload_n hx hb dL_law_2752 rfl (lv_at hl 4 rfl) ?_
    refine lw_m (s1 := S9) (t1 := s9) (Wn := (LCh cy a S9 S9)) hC (c_X8_failedCommand_no l G cy a.am a.aS a.aBf a.aAs a.aSv a.aPa a.aOu a.aTx a.aCo s9.ct s9.nb s9.LN ((s9.x0).1) s9.CM s9.hs s9.th (bI (s9.x0).2) s9.ep s9.fc s9.σ (by rw [h1]; decide)) (cwV 0 hC.S9.2.2.2.2 gL_law_X8_failedCommand rfl rfl rfl (by decide +kernel) ⟨Nat.le_of_ble_eq_true rfl, Nat.le_of_ble_eq_true rfl⟩) [15, 16] rfl (by decide) (SameR.cons (SameR.cons SameR.nil)) (by subst eS; rfl) hP hD hS rfl hl.1 rfl (Nat.le_of_ble_eq_true rfl) ⟨hc1, hs1⟩ dL_law_2753 (fun H locs hP hD hS => ?_)
    refine lv_istore (lv' := [(7, .int 0), (6, .int 1), (5, .int (nI (4 * q))), (4, .ref a.oD), (3, .ref a.oA), (2, .ref a.am), (1, .ref a.aX), (0, .ref b)]) hx hb dL_law_2756 hl (by decide) rfl (fun ls hl => ?_)
    refine lv_aload_n hx hb dL_law_2758 rfl (lv_at hl 5 rfl) ?_
    refine lw_thrown (s1 := S9) (t1 := S9) (k := 1) hC hP (by subst eS; rfl) hl.1 (Nat.le_of_ble_eq_true rfl) ⟨hc1, hs1⟩ dL_law_2759 ?_
    refine lv_iload hx hb dL_law_2762 (lv_at hl 1 rfl) ?_
    refine lv_icmp_eq (tgt := 2769) hx hb dL_law_2764 (by decide) (fun c_2764 => ?_) (fun c_2764 => ?_)
    rotate_left
    · exact absurd c_2764 (by decide)
    refine lv_iload hx hb dL_law_2769 (lv_at hl 1 rfl) ?_
    refine lv_if_ne (tgt := 2786) hx hb dL_law_2771 (by decide) (fun c_2771 => ?_) (fun c_2771 => ?_)
    rotate_left
    · exact absurd c_2771 (by decide)
    refine lv_goto (tgt := 2890) hx hb dL_law_2786 (by decide) ?_
    exact kk S9 H locs ls (LI.of (LI.mono hI (by omega)) (by subst eS; rfl) (by subst eS; rfl) (by subst eS; rfl) (by subst eS; rfl) (by subst eS; rfl) (by subst eS; rfl) (by subst eS; rfl) (by subst eS; rfl) (by subst eS; rfl) (by subst eS; rfl) (by subst eS; rfl) (by subst eS; rfl) (by subst eS; rfl) (by subst eS; rfl) (by subst eS; rfl)) hP hD hS (lv_sub hl [2, 3, 4, 5, 6, 7] rfl)
  · have h2 : ¬ s9.fc < 0 := by rw [h1, Int32.lt_iff_toInt_lt, nI_toInt (by omega), Int32.toInt_zero]; omega
    have h3 : ¬ s9.fc = -1 := fun z => h2 (by rw [z]; decide)
    obtain ⟨S9, eS⟩ : ∃ z : LwS, z = (LwS.mk s9.σ s9.υ s9.ς s9.hs s9.ep s9.fc s9.ml 0 s9.nx s9.ct s9.nb s9.n s9.LN s9.CM s9.ρ s9.x s9.x0 s9.f s9.gk s9.g1 s9.g2 s9.g3 s9.fb s9.fB s9.fA s9.fV s9.fP s9.fO s9.g (fun _ => (s9.fc).toInt64) s9.fd) := ⟨_, rfl⟩
    refine lv_aload_n hx hb dL_law_2745 rfl (lv_at hl 4 rfl) ?_
    refine lv_aload_n hx hb dL_law_2746 rfl (lv_at hl 2 rfl) ?_
    refine lw_w (mc := 0) (ms := 0) (Wc := (LCh cy a s9 s9)) (Wn := (LCh cy a S9 s9)) hC (w_failedCommand_ok l G cy kS vS a.aX a.na a.tr a.sn s9.hs a.hi a.sc s9.ep s9.fc a.ob s9.σ a.oA s9.fo hI.1.1 h3) (vx_cwSW 2 hC.S9.2.2.2.2 gL_law_L_failedCommand rfl rfl rfl (by decide +kernel) ⟨Nat.le_of_ble_eq_true rfl, Nat.le_of_ble_eq_true rfl⟩) [0, 1, 24] rfl (by decide) (SameL.cons SameA.rf (SameL.cons SameA.rf (SameL.cons SameA.one SameL.nil))) (by subst eS; rfl) hP hD hS rfl hl.1 rfl (Nat.le_of_ble_eq_true rfl) ⟨hc0, hs0⟩ dL_law_2747 (fun H locs hP hD hS => ?_)
    refine lv_istore (lv' := [(6, .int 0), (5, .int (nI (4 * q))), (4, .ref a.oD), (3, .ref a.oA), (2, .ref a.am), (1, .ref a.aX), (0, .ref b)]) hx hb dL_law_2750 hl (by decide) rfl (fun ls hl => ?_)
    refine lv_aload_n hx hb dL_law_2752 rfl (lv_at hl 4 rfl) ?_
    refine lw_m (s1 := S9) (t1 := s9) (Wn := (LCh cy a S9 S9)) hC (c_X8_failedCommand_ok l G cy a.am a.aS a.aBf a.aAs a.aSv a.aPa a.aOu a.aTx a.aCo s9.ct s9.nb s9.LN ((s9.x0).1) s9.CM s9.hs s9.th (bI (s9.x0).2) s9.ep s9.fc s9.σ h2) (cwV 0 hC.S9.2.2.2.2 gL_law_X8_failedCommand rfl rfl rfl (by decide +kernel) ⟨Nat.le_of_ble_eq_true rfl, Nat.le_of_ble_eq_true rfl⟩) [15, 16] rfl (by decide) (SameR.cons (SameR.cons SameR.nil)) (by subst eS; rfl) hP hD hS rfl hl.1 rfl (Nat.le_of_ble_eq_true rfl) ⟨hcn, hsn⟩ dL_law_2753 (fun H locs hP hD hS => ?_)
    refine lv_istore (lv' := [(7, .int s9.fc), (6, .int 0), (5, .int (nI (4 * q))), (4, .ref a.oD), (3, .ref a.oA), (2, .ref a.am), (1, .ref a.aX), (0, .ref b)]) hx hb dL_law_2756 hl (by decide) rfl (fun ls hl => ?_)
    refine lv_aload_n hx hb dL_law_2758 rfl (lv_at hl 5 rfl) ?_
    refine lw_thrown (s1 := S9) (t1 := S9) (k := 0) hC hP (by subst eS; rfl) hl.1 (Nat.le_of_ble_eq_true rfl) ⟨hcn, hsn⟩ dL_law_2759 ?_
    refine lv_iload hx hb dL_law_2762 (lv_at hl 1 rfl) ?_
    refine lv_icmp_eq (tgt := 2769) hx hb dL_law_2764 (by decide) (fun c_2764 => ?_) (fun c_2764 => ?_)
    rotate_left
    · exact absurd c_2764 (by decide)
    refine lv_iload hx hb dL_law_2769 (lv_at hl 1 rfl) ?_
    refine lv_if_ne (tgt := 2786) hx hb dL_law_2771 (by decide) (fun c_2771 => ?_) (fun c_2771 => ?_)
    · exact absurd c_2771 (by decide)
    refine lv_aload_n hx hb dL_law_2774 rfl (lv_at hl 4 rfl) ?_
    refine lv_iconst (v := 0) hx hb dL_law_2775 (by decide) ?_
    refine lw_ldL (s1 := S9) (t1 := S9) (x := (s9.fc).toInt64) hC hP (by subst eS; rfl) dL_law_2776 ?_
    refine lv_iload hx hb dL_law_2777 (lv_at hl 0 rfl) ?_
    refine lv_i2l hx hb dL_law_2779 rfl ?_
    refine m_lcmp0 hx hb rfl dL_law_2780 ?_
    refine lv_if_eq (tgt := 2786) hx hb dL_law_2781 (by decide) (fun c_2781 => ?_) (fun c_2781 => ?_)
    rotate_left
    · exact absurd c_2781 (by decide)
    refine lv_goto (tgt := 2890) hx hb dL_law_2786 (by decide) ?_
    refine W.widen (k := cells + 1) (n := slots + 6) (by omega) (by omega) ?_
    exact kk S9 H locs ls (LI.of (LI.mono hI (by omega)) (by subst eS; rfl) (by subst eS; rfl) (by subst eS; rfl) (by subst eS; rfl) (by subst eS; rfl) (by subst eS; rfl) (by subst eS; rfl) (by subst eS; rfl) (by subst eS; rfl) (by subst eS; rfl) (by subst eS; rfl) (by subst eS; rfl) (by subst eS; rfl) (by subst eS; rfl) (by subst eS; rfl)) hP hD hS (lv_sub hl [2, 3, 4, 5, 6, 7] rfl)

set_option maxRecDepth 100000 in
set_option maxHeartbeats 4000000 in
theorem case_52 {p : Program} {l : Launch} {e : Env} {s : State} {m : MethodId} {below : List Frame} {meth : Method} {cq : Code} {G : va_G} {cy : Nat → ClassId} {kS vS : Nat → Nat} {A : Nat → Prop} {a : LA} {b L q : Nat} {xs : Nat → Int32} {Q : State → Prop} {n0 cells slots : Nat} (hC : LC l p s m meth cq G cy kS vS A b L xs) (hq : 4 * q + 4 ≤ L) (hn0 : n0 < 1000000) (hc1 : cells + 1 ≤ room_1.cells) (hs1 : slots + 6 ≤ room_1.slots) (kk : LGo p l e s m below meth cq G cy A a b q Q (n0 + 300) (cells + 1) (slots + 6) 2890) : LGo p l e s m below meth cq G cy A a b q Q n0 cells slots 2789 := by
  intro s9 H locs ls hI hP hD hS hl
  obtain ⟨hx, hb, hml, hown, hts⟩ := id hC.S9
  have hL9 := hC.hL
  have hc0 : cells + 0 ≤ room_1.cells := Nat.le_of_succ_le hc1
  have hcn : cells ≤ room_1.cells := Nat.le_of_succ_le hc1
  have hs0 : slots + 0 ≤ room_1.slots := Nat.le_trans (Nat.le_add_right slots 6) hs1
  have hsn : slots ≤ room_1.slots := Nat.le_trans (Nat.le_add_right slots 6) hs1
  have ho := hI.1.1
  have hN0 := ho.1
  have hM0 := ho.2.1
  have hE0 := ho.2.2.1
  have hnx := hI.2.2.2.2.1
  have hct := hI.2.2.2.2.2.1
  rcases hk : s9.ct with _ | K
  · obtain ⟨Z9, eZ⟩ : ∃ z : LwS, z = (LwS.mk s9.σ s9.υ s9.ς s9.hs s9.ep s9.fc s9.ml s9.th s9.nx 0 s9.nb s9.n s9.LN s9.CM s9.ρ s9.x s9.x0 s9.f s9.gk s9.g1 s9.g2 s9.g3 s9.fb s9.fB s9.fA s9.fV s9.fP s9.fO s9.g s9.fo s9.fd) := ⟨_, rfl⟩
    have eW : LCh cy a Z9 Z9 = LCh cy a s9 s9 := (LCh.left (by subst eZ; rfl) (by subst eZ; rfl) (by subst eZ; rfl) (by subst eZ; rfl) (by subst eZ; rfl) (by subst eZ; rfl) (by subst eZ; rfl) (by subst eZ; rfl) (by subst eZ; exact hk.symm) (by subst eZ; rfl) (by subst eZ; rfl) (by subst eZ; rfl) (by subst eZ; rfl) (by subst eZ; rfl) (by subst eZ; rfl) (by subst eZ; rfl) (by subst eZ; rfl) (by subst eZ; rfl) (by subst eZ; rfl) (by subst eZ; rfl) (by subst eZ; rfl) (by subst eZ; rfl)).trans (LCh.right (by subst eZ; rfl) (by subst eZ; rfl) (by subst eZ; rfl) (by subst eZ; rfl) (by subst eZ; rfl) (by subst eZ; exact hk.symm) (by subst eZ; rfl) (by subst eZ; rfl) (by subst eZ; rfl) (by subst eZ; rfl) (by subst eZ; rfl) (by subst eZ; rfl) (by subst eZ; rfl) (by subst eZ; rfl) (by subst eZ; rfl) (by subst eZ; rfl) (by subst eZ; rfl))
    rw [← eW] at hP hD
    have hI0 : LI n0 Z9 := LI.of hI (by subst eZ; rfl) (by subst eZ; rfl) (by subst eZ; rfl) (by subst eZ; rfl) (by subst eZ; rfl) (by subst eZ; rfl) (by subst eZ; exact hk.symm) (by subst eZ; rfl) (by subst eZ; rfl) (by subst eZ; rfl) (by subst eZ; rfl) (by subst eZ; rfl) (by subst eZ; rfl) (by subst eZ; rfl) (by subst eZ; rfl)
    obtain ⟨S9, eS⟩ : ∃ z : LwS, z = (LwS.mk s9.σ s9.υ s9.ς s9.hs s9.ep s9.fc s9.ml 1 s9.nx 0 s9.nb s9.n s9.LN s9.CM s9.ρ s9.x s9.x0 s9.f s9.gk s9.g1 s9.g2 s9.g3 s9.fb s9.fB s9.fA s9.fV s9.fP s9.fO s9.g s9.fo s9.fd) := ⟨_, rfl⟩
    refine lv_aload_n hx hb dL_law_2789 rfl (lv_at hl 4 rfl) ?_
    refine lv_aload_n hx hb dL_law_2790 rfl (lv_at hl 2 rfl) ?_
    refine lw_w (mc := 1) (ms := 6) (Wc := (LCh cy a Z9 Z9)) (Wn := (LCh cy a S9 Z9)) hC (w_undo_t l G cy kS vS a.aX a.na a.tr a.sn s9.hs a.hi a.sc s9.ep s9.fc a.ob a.hA s9.nx 0 a.ra s9.ρ s9.σ a.oA s9.fo hC.hl9) (vx_cwSW 2 hC.S9.2.2.2.2 gL_law_L_undo rfl rfl rfl (by decide +kernel) ⟨Nat.le_of_ble_eq_true rfl, Nat.le_of_ble_eq_true rfl⟩) [0, 1, 4, 5, 6, 24] (by subst eZ; rfl) (by decide) (SameL.cons SameA.rf (SameL.cons SameA.rf (SameL.cons SameA.rf (SameL.cons SameA.rf (SameL.cons SameA.rf (SameL.cons SameA.rf SameL.nil)))))) (by subst eS; subst eZ; rfl) hP hD hS rfl hl.1 rfl (Nat.le_of_ble_eq_true rfl) ⟨hc1, hs1⟩ dL_law_2791 (fun H locs hP hD hS => ?_)
    refine lv_istore (lv' := [(6, .int 1), (5, .int (nI (4 * q))), (4, .ref a.oD), (3, .ref a.oA), (2, .ref a.am), (1, .ref a.aX), (0, .ref b)]) hx hb dL_law_2794 hl (by decide) rfl (fun ls hl => ?_)
    refine lv_aload_n hx hb dL_law_2796 rfl (lv_at hl 4 rfl) ?_
    refine lw_m (s1 := S9) (t1 := Z9) (Wn := (LCh cy a S9 S9)) hC (c_X8_undo_no l G cy a.am a.aS a.aBf a.aAs a.aSv a.aPa a.aOu a.aTx a.aCo 0 s9.nb s9.LN ((s9.x0).1) s9.CM s9.hs s9.th (bI (s9.x0).2) s9.ep s9.fc s9.σ) (cwV 0 hC.S9.2.2.2.2 gL_law_X8_undo rfl rfl rfl (by decide +kernel) ⟨Nat.le_of_ble_eq_true rfl, Nat.le_of_ble_eq_true rfl⟩) [15, 16] (by subst eZ; rfl) (by decide) (SameR.cons (SameR.cons SameR.nil)) (by subst eS; subst eZ; rfl) hP hD hS rfl hl.1 rfl (Nat.le_of_ble_eq_true rfl) ⟨hc1, hs1⟩ dL_law_2797 (fun H locs hP hD hS => ?_)
    refine lv_istore (lv' := [(7, .int 0), (6, .int 1), (5, .int (nI (4 * q))), (4, .ref a.oD), (3, .ref a.oA), (2, .ref a.am), (1, .ref a.aX), (0, .ref b)]) hx hb dL_law_2800 hl (by decide) rfl (fun ls hl => ?_)
    refine lv_aload_n hx hb dL_law_2802 rfl (lv_at hl 5 rfl) ?_
    refine lw_thrown (s1 := S9) (t1 := S9) (k := 1) hC hP (by subst eS; subst eZ; rfl) hl.1 (Nat.le_of_ble_eq_true rfl) ⟨hc1, hs1⟩ dL_law_2803 ?_
    refine lv_iload hx hb dL_law_2806 (lv_at hl 1 rfl) ?_
    refine lv_icmp_eq (tgt := 2813) hx hb dL_law_2808 (by decide) (fun c_2808 => ?_) (fun c_2808 => ?_)
    rotate_left
    · exact absurd c_2808 (by decide)
    refine lv_iload hx hb dL_law_2813 (lv_at hl 1 rfl) ?_
    refine lv_if_ne (tgt := 2830) hx hb dL_law_2815 (by decide) (fun c_2815 => ?_) (fun c_2815 => ?_)
    rotate_left
    · exact absurd c_2815 (by decide)
    refine lv_goto (tgt := 2890) hx hb dL_law_2830 (by decide) ?_
    exact kk S9 H locs ls (LI.of (LI.mono hI0 (by omega)) (by subst eS; subst eZ; rfl) (by subst eS; subst eZ; rfl) (by subst eS; subst eZ; rfl) (by subst eS; subst eZ; rfl) (by subst eS; subst eZ; rfl) (by subst eS; subst eZ; rfl) (by subst eS; subst eZ; rfl) (by subst eS; subst eZ; rfl) (by subst eS; subst eZ; rfl) (by subst eS; subst eZ; rfl) (by subst eS; subst eZ; rfl) (by subst eS; subst eZ; rfl) (by subst eS; subst eZ; rfl) (by subst eS; subst eZ; rfl) (by subst eS; subst eZ; rfl)) hP hD hS (lv_sub hl [2, 3, 4, 5, 6, 7] rfl)
  · have hp : ∀ j, j < 89 → s9.fP (89 * K + j) = encS (s9.ρ ((s9.nx + 7) % 8)) j := fun j hj => by have h9 := hI.2.2.2.2.2.2.1 K (by rw [hk]; exact Nat.lt_succ_self _) j hj; rw [hk, show (s9.nx + 8 - (K + 1) + K) % 8 = (s9.nx + 7) % 8 by omega] at h9; exact h9
    obtain ⟨S9, eS⟩ : ∃ z : LwS, z = (LwS.mk (s9.ρ ((s9.nx + 7) % 8)) s9.υ s9.ς s9.hs s9.ep s9.fc s9.ml 0 ((s9.nx + 7) % 8) K s9.nb s9.n s9.LN s9.CM s9.ρ s9.x s9.x0 s9.f s9.gk s9.g1 s9.g2 s9.g3 s9.fb s9.fB s9.fA s9.fV s9.fP s9.fO s9.g (fun _ => (nI K).toInt64) s9.fd) := ⟨_, rfl⟩
    refine lv_aload_n hx hb dL_law_2789 rfl (lv_at hl 4 rfl) ?_
    refine lv_aload_n hx hb dL_law_2790 rfl (lv_at hl 2 rfl) ?_
    refine lw_w (mc := 0) (ms := 0) (Wc := (LCh cy a s9 s9)) (Wn := (LCh cy a S9 s9)) hC (w_undo_ok l G cy kS vS a.aX a.na a.tr a.sn s9.hs a.hi a.sc s9.ep s9.fc a.ob a.hA s9.nx K a.ra s9.ρ s9.σ a.oA s9.fo (fun k hk => (hI.2.2.1 k hk).1) hnx (by omega)) (vx_cwSW 2 hC.S9.2.2.2.2 gL_law_L_undo rfl rfl rfl (by decide +kernel) ⟨Nat.le_of_ble_eq_true rfl, Nat.le_of_ble_eq_true rfl⟩) [0, 1, 4, 5, 6, 24] (by rw [← hk]; rfl) (by decide) (SameL.cons SameA.rf (SameL.cons SameA.st (SameL.cons SameA.one (SameL.cons SameA.rf (SameL.cons SameA.rf (SameL.cons SameA.one SameL.nil)))))) (by subst eS; rfl) hP hD hS rfl hl.1 rfl (Nat.le_of_ble_eq_true rfl) ⟨hc0, hs0⟩ dL_law_2791 (fun H locs hP hD hS => ?_)
    refine lv_istore (lv' := [(6, .int 0), (5, .int (nI (4 * q))), (4, .ref a.oD), (3, .ref a.oA), (2, .ref a.am), (1, .ref a.aX), (0, .ref b)]) hx hb dL_law_2794 hl (by decide) rfl (fun ls hl => ?_)
    refine lv_aload_n hx hb dL_law_2796 rfl (lv_at hl 4 rfl) ?_
    refine lw_m (s1 := S9) (t1 := s9) (Wn := (LCh cy a S9 S9)) hC (c_X8_undo_ok l G cy a.am a.aS a.aBf a.aAs a.aSv a.aPa a.aOu a.aTx a.aCo s9.ct s9.nb s9.LN ((s9.x0).1) s9.CM s9.hs s9.th (bI (s9.x0).2) s9.ep s9.fc s9.σ (s9.ρ ((s9.nx + 7) % 8)) K s9.fP (by omega) hp) (cwV 0 hC.S9.2.2.2.2 gL_law_X8_undo rfl rfl rfl (by decide +kernel) ⟨Nat.le_of_ble_eq_true rfl, Nat.le_of_ble_eq_true rfl⟩) [15, 16, 20] (by rw [← hk]; rfl) (by decide) (SameR.cons (SameR.cons (SameR.cons SameR.nil))) (by subst eS; rfl) hP hD hS rfl hl.1 rfl (Nat.le_of_ble_eq_true rfl) ⟨hcn, hsn⟩ dL_law_2797 (fun H locs hP hD hS => ?_)
    refine lv_istore (lv' := [(7, .int (nI K)), (6, .int 0), (5, .int (nI (4 * q))), (4, .ref a.oD), (3, .ref a.oA), (2, .ref a.am), (1, .ref a.aX), (0, .ref b)]) hx hb dL_law_2800 hl (by decide) rfl (fun ls hl => ?_)
    refine lv_aload_n hx hb dL_law_2802 rfl (lv_at hl 5 rfl) ?_
    refine lw_thrown (s1 := S9) (t1 := S9) (k := 0) hC hP (by subst eS; rfl) hl.1 (Nat.le_of_ble_eq_true rfl) ⟨hcn, hsn⟩ dL_law_2803 ?_
    refine lv_iload hx hb dL_law_2806 (lv_at hl 1 rfl) ?_
    refine lv_icmp_eq (tgt := 2813) hx hb dL_law_2808 (by decide) (fun c_2808 => ?_) (fun c_2808 => ?_)
    rotate_left
    · exact absurd c_2808 (by decide)
    refine lv_iload hx hb dL_law_2813 (lv_at hl 1 rfl) ?_
    refine lv_if_ne (tgt := 2830) hx hb dL_law_2815 (by decide) (fun c_2815 => ?_) (fun c_2815 => ?_)
    · exact absurd c_2815 (by decide)
    refine lv_aload_n hx hb dL_law_2818 rfl (lv_at hl 4 rfl) ?_
    refine lv_iconst (v := 0) hx hb dL_law_2819 (by decide) ?_
    refine lw_ldL (s1 := S9) (t1 := S9) (x := (nI K).toInt64) hC hP (by subst eS; rfl) dL_law_2820 ?_
    refine lv_iload hx hb dL_law_2821 (lv_at hl 0 rfl) ?_
    refine lv_i2l hx hb dL_law_2823 rfl ?_
    refine m_lcmp0 hx hb rfl dL_law_2824 ?_
    refine lv_if_eq (tgt := 2830) hx hb dL_law_2825 (by decide) (fun c_2825 => ?_) (fun c_2825 => ?_)
    rotate_left
    · exact absurd c_2825 (by decide)
    refine lv_goto (tgt := 2890) hx hb dL_law_2830 (by decide) ?_
    refine W.widen (k := cells + 1) (n := slots + 6) (by omega) (by omega) ?_
    exact kk S9 H locs ls (LI.of ((LI.undone hI hk).mono (by omega)) (by subst eS; rfl) (by subst eS; rfl) (by subst eS; rfl) (by subst eS; rfl) (by subst eS; rfl) (by subst eS; rfl) (by subst eS; rfl) (by subst eS; rfl) (by subst eS; rfl) (by subst eS; rfl) (by subst eS; rfl) (by subst eS; rfl) (by subst eS; rfl) (by subst eS; rfl) (by subst eS; rfl)) hP hD hS (lv_sub hl [2, 3, 4, 5, 6, 7] rfl)

set_option maxRecDepth 100000 in
set_option maxHeartbeats 4000000 in
theorem case_53 {p : Program} {l : Launch} {e : Env} {s : State} {m : MethodId} {below : List Frame} {meth : Method} {cq : Code} {G : va_G} {cy : Nat → ClassId} {kS vS : Nat → Nat} {A : Nat → Prop} {a : LA} {b L q : Nat} {xs : Nat → Int32} {Q : State → Prop} {n0 cells slots : Nat} (hC : LC l p s m meth cq G cy kS vS A b L xs) (hq : 4 * q + 4 ≤ L) (hn0 : n0 < 1000000) (hc1 : cells + 1 ≤ room_1.cells) (hs1 : slots + 6 ≤ room_1.slots) (kk : LGo p l e s m below meth cq G cy A a b q Q (n0 + 300) (cells + 1) (slots + 6) 2890) : LGo p l e s m below meth cq G cy A a b q Q n0 cells slots 2833 := by
  intro s9 H locs ls hI hP hD hS hl
  obtain ⟨hx, hb, hml, hown, hts⟩ := id hC.S9
  have hL9 := hC.hL
  have hc0 : cells + 0 ≤ room_1.cells := Nat.le_of_succ_le hc1
  have hcn : cells ≤ room_1.cells := Nat.le_of_succ_le hc1
  have hs0 : slots + 0 ≤ room_1.slots := Nat.le_trans (Nat.le_add_right slots 6) hs1
  have hsn : slots ≤ room_1.slots := Nat.le_trans (Nat.le_add_right slots 6) hs1
  have ho := hI.1.1
  have hN0 := ho.1
  have hM0 := ho.2.1
  have hE0 := ho.2.2.1
  have hnx := hI.2.2.2.2.1
  have hct := hI.2.2.2.2.2.1
  obtain ⟨S9, eS⟩ : ∃ z : LwS, z = (LwS.mk s9.σ s9.υ s9.σ 1 s9.ep s9.fc s9.ml 0 s9.nx s9.ct s9.nb s9.n s9.LN s9.CM s9.ρ s9.x s9.x0 s9.f s9.gk s9.g1 s9.g2 s9.g3 s9.fb s9.fB s9.fA (encS s9.σ) s9.fP s9.fO s9.g s9.fo s9.fd) := ⟨_, rfl⟩
  refine lv_aload_n hx hb dL_law_2833 rfl (lv_at hl 4 rfl) ?_
  refine c_wcVi (ws' := fl (LCh cy a S9 s9)) hC.S9 (c_X7_save l G cy a.aX a.na a.tr a.sn s9.hs a.hi a.sc s9.ep s9.fc a.ob s9.σ s9.ς hI.1.1) (cwV 0 hC.S9.2.2.2.2 gL_law_X7_save rfl rfl rfl (by decide +kernel) ⟨Nat.le_of_ble_eq_true rfl, Nat.le_of_ble_eq_true rfl⟩) PB.blind (va_recv hC.hK.1 hP (ci := 11) (q0 := offs (LCh cy a s9 s9) 0 + 0) rfl ((fl_at (Wc := (LCh cy a s9 s9)) (j := 0) (i := 0) (c := [(a.aX, .inr (11, [.ref (a.na 0), .ref (a.tr 0), .ref (a.sn 0), .int s9.hs, .ref a.hi, .ref a.sc, .int s9.ep, .int s9.fc, .ref a.ob]))]) rfl (Nat.le_of_ble_eq_true rfl)).trans rfl)) (PB.at hC.hK (PpartC (Wc := (LCh cy a s9 s9)) (cs := [[(a.aX, .inr (11, [.ref (a.na 0), .ref (a.tr 0), .ref (a.sn 0), .int s9.hs, .ref a.hi, .ref a.sc, .int s9.ep, .int s9.fc, .ref a.ob]))], sWd cy a.na s9.σ, sWd cy a.sn s9.ς]) hP [0, 1, 3] rfl)) hP hD hS (poss (LCh cy a s9 s9) [0, 1, 3]) (poss_F (cs := [[(a.aX, .inr (11, [.ref (a.na 0), .ref (a.tr 0), .ref (a.sn 0), .int s9.hs, .ref a.hi, .ref a.sc, .int s9.ep, .int s9.fc, .ref a.ob]))], sWd cy a.na s9.σ, sWd cy a.sn s9.ς]) rfl) (poss_nd (by decide)) (SameL.fst (SameL.cons SameA.one (SameL.cons SameA.rf (SameL.cons SameA.st SameL.nil)))) (by subst eS; exact wsets_F (cs := [[(a.aX, .inr (11, [.ref (a.na 0), .ref (a.tr 0), .ref (a.sn 0), .int s9.hs, .ref a.hi, .ref a.sc, .int s9.ep, .int s9.fc, .ref a.ob]))], sWd cy a.na s9.σ, sWd cy a.sn s9.ς]) (ns := [[(a.aX, .inr (11, [.ref (a.na 0), .ref (a.tr 0), .ref (a.sn 0), .int 1, .ref a.hi, .ref a.sc, .int s9.ep, .int s9.fc, .ref a.ob]))], sWd cy a.na s9.σ, sWd cy a.sn s9.σ]) rfl (by decide) (SameL.len (SameL.cons SameA.one (SameL.cons SameA.rf (SameL.cons SameA.st SameL.nil))))) rfl hl.1 rfl (Nat.le_of_ble_eq_true rfl) ⟨hcn, hsn⟩ dL_law_2834 (fun H locs hP hD hS => ?_)
  refine lv_aload_n hx hb dL_law_2837 rfl (lv_at hl 3 rfl) ?_
  refine lw_m (s1 := S9) (t1 := s9) (Wn := (LCh cy a S9 S9)) hC (c_X8_save l G cy a.am a.aS a.aBf a.aAs a.aSv a.aPa a.aOu a.aTx a.aCo s9.ct s9.nb s9.LN ((s9.x0).1) s9.CM s9.hs s9.th (bI (s9.x0).2) s9.ep s9.fc s9.σ s9.fV) (cwV 0 hC.S9.2.2.2.2 gL_law_X8_save rfl rfl rfl (by decide +kernel) ⟨Nat.le_of_ble_eq_true rfl, Nat.le_of_ble_eq_true rfl⟩) [15, 16, 19] rfl (by decide) (SameR.cons (SameR.cons (SameR.cons SameR.nil))) (by subst eS; rfl) hP hD hS rfl hl.1 rfl (Nat.le_of_ble_eq_true rfl) ⟨hcn, hsn⟩ dL_law_2838 (fun H locs hP hD hS => ?_)
  refine lv_icmp_eq (tgt := 2890) hx hb dL_law_2841 (by decide) (fun c_2841 => ?_) (fun c_2841 => ?_)
  rotate_left
  · exact absurd rfl c_2841
  refine W.widen (k := cells + 1) (n := slots + 6) (by omega) (by omega) ?_
  exact kk S9 H locs ls (LI.of ((LI.saved hI).mono (by omega)) (by subst eS; rfl) (by subst eS; rfl) (by subst eS; rfl) (by subst eS; rfl) (by subst eS; rfl) (by subst eS; rfl) (by subst eS; rfl) (by subst eS; rfl) (by subst eS; rfl) (by subst eS; rfl) (by subst eS; rfl) (by subst eS; rfl) (by subst eS; rfl) (by subst eS; rfl) (by subst eS; rfl)) hP hD hS (lv_sub hl [0, 1, 2, 3, 4, 5] rfl)

set_option maxRecDepth 100000 in
set_option maxHeartbeats 4000000 in
theorem case_54 {p : Program} {l : Launch} {e : Env} {s : State} {m : MethodId} {below : List Frame} {meth : Method} {cq : Code} {G : va_G} {cy : Nat → ClassId} {kS vS : Nat → Nat} {A : Nat → Prop} {a : LA} {b L q : Nat} {xs : Nat → Int32} {Q : State → Prop} {n0 cells slots : Nat} (hC : LC l p s m meth cq G cy kS vS A b L xs) (hq : 4 * q + 4 ≤ L) (hn0 : n0 < 1000000) (hc1 : cells + 1 ≤ room_1.cells) (hs1 : slots + 6 ≤ room_1.slots) (kk : LGo p l e s m below meth cq G cy A a b q Q (n0 + 300) (cells + 1) (slots + 6) 2890) : LGo p l e s m below meth cq G cy A a b q Q n0 cells slots 2846 := by
  intro s9 H locs ls hI hP hD hS hl
  obtain ⟨hx, hb, hml, hown, hts⟩ := id hC.S9
  have hL9 := hC.hL
  have hc0 : cells + 0 ≤ room_1.cells := Nat.le_of_succ_le hc1
  have hcn : cells ≤ room_1.cells := Nat.le_of_succ_le hc1
  have hs0 : slots + 0 ≤ room_1.slots := Nat.le_trans (Nat.le_add_right slots 6) hs1
  have hsn : slots ≤ room_1.slots := Nat.le_trans (Nat.le_add_right slots 6) hs1
  have ho := hI.1.1
  have hN0 := ho.1
  have hM0 := ho.2.1
  have hE0 := ho.2.2.1
  have hnx := hI.2.2.2.2.1
  have hct := hI.2.2.2.2.2.1
  rcases hI.2.2.2.1 with h1 | ⟨h1, h2⟩
  · obtain ⟨Z9, eZ⟩ : ∃ z : LwS, z = (LwS.mk s9.σ s9.υ s9.ς 0 s9.ep s9.fc s9.ml s9.th s9.nx s9.ct s9.nb s9.n s9.LN s9.CM s9.ρ s9.x s9.x0 s9.f s9.gk s9.g1 s9.g2 s9.g3 s9.fb s9.fB s9.fA s9.fV s9.fP s9.fO s9.g s9.fo s9.fd) := ⟨_, rfl⟩
    have eW : LCh cy a Z9 Z9 = LCh cy a s9 s9 := (LCh.left (by subst eZ; rfl) (by subst eZ; rfl) (by subst eZ; rfl) (by subst eZ; exact h1.symm) (by subst eZ; rfl) (by subst eZ; rfl) (by subst eZ; rfl) (by subst eZ; rfl) (by subst eZ; rfl) (by subst eZ; rfl) (by subst eZ; rfl) (by subst eZ; rfl) (by subst eZ; rfl) (by subst eZ; rfl) (by subst eZ; rfl) (by subst eZ; rfl) (by subst eZ; rfl) (by subst eZ; rfl) (by subst eZ; rfl) (by subst eZ; rfl) (by subst eZ; rfl) (by subst eZ; rfl)).trans (LCh.right (by subst eZ; rfl) (by subst eZ; exact h1.symm) (by subst eZ; rfl) (by subst eZ; rfl) (by subst eZ; rfl) (by subst eZ; rfl) (by subst eZ; rfl) (by subst eZ; rfl) (by subst eZ; rfl) (by subst eZ; rfl) (by subst eZ; rfl) (by subst eZ; rfl) (by subst eZ; rfl) (by subst eZ; rfl) (by subst eZ; rfl) (by subst eZ; rfl) (by subst eZ; rfl))
    rw [← eW] at hP hD
    have hI0 : LI n0 Z9 := LI.of hI (by subst eZ; rfl) (by subst eZ; rfl) (by subst eZ; rfl) (by subst eZ; exact h1.symm) (by subst eZ; rfl) (by subst eZ; rfl) (by subst eZ; rfl) (by subst eZ; rfl) (by subst eZ; rfl) (by subst eZ; rfl) (by subst eZ; rfl) (by subst eZ; rfl) (by subst eZ; rfl) (by subst eZ; rfl) (by subst eZ; rfl)
    obtain ⟨S9, eS⟩ : ∃ z : LwS, z = (LwS.mk s9.σ s9.υ s9.ς 0 s9.ep s9.fc s9.ml 1 s9.nx s9.ct s9.nb s9.n s9.LN s9.CM s9.ρ s9.x s9.x0 s9.f s9.gk s9.g1 s9.g2 s9.g3 s9.fb s9.fB s9.fA s9.fV s9.fP s9.fO s9.g s9.fo s9.fd) := ⟨_, rfl⟩
    refine lv_aload_n hx hb dL_law_2846 rfl (lv_at hl 4 rfl) ?_
    refine lv_aload_n hx hb dL_law_2847 rfl (lv_at hl 2 rfl) ?_
    refine lw_w (mc := 1) (ms := 6) (Wc := (LCh cy a Z9 Z9)) (Wn := (LCh cy a S9 Z9)) hC (w_restore_t l G cy kS vS a.aX a.na a.tr a.sn a.hi a.sc s9.ep s9.fc a.ob a.hA s9.nx s9.ct s9.σ s9.ς a.oA s9.fo hC.hl9) (vx_cwSW 2 hC.S9.2.2.2.2 gL_law_L_restore rfl rfl rfl (by decide +kernel) ⟨Nat.le_of_ble_eq_true rfl, Nat.le_of_ble_eq_true rfl⟩) [0, 1, 4, 3, 24] (by subst eZ; rfl) (by decide) (SameL.cons SameA.rf (SameL.cons SameA.rf (SameL.cons SameA.rf (SameL.cons SameA.rf (SameL.cons SameA.rf SameL.nil))))) (by subst eS; subst eZ; rfl) hP hD hS rfl hl.1 rfl (Nat.le_of_ble_eq_true rfl) ⟨hc1, hs1⟩ dL_law_2848 (fun H locs hP hD hS => ?_)
    refine lv_istore (lv' := [(6, .int 1), (5, .int (nI (4 * q))), (4, .ref a.oD), (3, .ref a.oA), (2, .ref a.am), (1, .ref a.aX), (0, .ref b)]) hx hb dL_law_2851 hl (by decide) rfl (fun ls hl => ?_)
    refine lv_aload_n hx hb dL_law_2853 rfl (lv_at hl 4 rfl) ?_
    refine lw_m (s1 := S9) (t1 := Z9) (Wn := (LCh cy a S9 S9)) hC (c_X8_restore_no l G cy a.am a.aS a.aBf a.aAs a.aSv a.aPa a.aOu a.aTx a.aCo s9.ct s9.nb s9.LN ((s9.x0).1) s9.CM 0 s9.th (bI (s9.x0).2) s9.ep s9.fc s9.σ) (cwV 0 hC.S9.2.2.2.2 gL_law_X8_restore rfl rfl rfl (by decide +kernel) ⟨Nat.le_of_ble_eq_true rfl, Nat.le_of_ble_eq_true rfl⟩) [15, 16] (by subst eZ; rfl) (by decide) (SameR.cons (SameR.cons SameR.nil)) (by subst eS; subst eZ; rfl) hP hD hS rfl hl.1 rfl (Nat.le_of_ble_eq_true rfl) ⟨hc1, hs1⟩ dL_law_2854 (fun H locs hP hD hS => ?_)
    refine lv_istore (lv' := [(7, .int 0), (6, .int 1), (5, .int (nI (4 * q))), (4, .ref a.oD), (3, .ref a.oA), (2, .ref a.am), (1, .ref a.aX), (0, .ref b)]) hx hb dL_law_2857 hl (by decide) rfl (fun ls hl => ?_)
    refine lv_aload_n hx hb dL_law_2859 rfl (lv_at hl 5 rfl) ?_
    refine lw_thrown (s1 := S9) (t1 := S9) (k := 1) hC hP (by subst eS; subst eZ; rfl) hl.1 (Nat.le_of_ble_eq_true rfl) ⟨hc1, hs1⟩ dL_law_2860 ?_
    refine lv_iload hx hb dL_law_2863 (lv_at hl 1 rfl) ?_
    refine lv_icmp_eq (tgt := 2870) hx hb dL_law_2865 (by decide) (fun c_2865 => ?_) (fun c_2865 => ?_)
    rotate_left
    · exact absurd c_2865 (by decide)
    refine lv_iload hx hb dL_law_2870 (lv_at hl 1 rfl) ?_
    refine lv_if_ne (tgt := 2887) hx hb dL_law_2872 (by decide) (fun c_2872 => ?_) (fun c_2872 => ?_)
    rotate_left
    · exact absurd c_2872 (by decide)
    refine lv_goto (tgt := 2890) hx hb dL_law_2887 (by decide) ?_
    exact kk S9 H locs ls (LI.of (LI.mono hI0 (by omega)) (by subst eS; subst eZ; rfl) (by subst eS; subst eZ; rfl) (by subst eS; subst eZ; rfl) (by subst eS; subst eZ; rfl) (by subst eS; subst eZ; rfl) (by subst eS; subst eZ; rfl) (by subst eS; subst eZ; rfl) (by subst eS; subst eZ; rfl) (by subst eS; subst eZ; rfl) (by subst eS; subst eZ; rfl) (by subst eS; subst eZ; rfl) (by subst eS; subst eZ; rfl) (by subst eS; subst eZ; rfl) (by subst eS; subst eZ; rfl) (by subst eS; subst eZ; rfl)) hP hD hS (lv_sub hl [2, 3, 4, 5, 6, 7] rfl)
  · obtain ⟨Z9, eZ⟩ : ∃ z : LwS, z = (LwS.mk s9.σ s9.υ s9.ς 1 s9.ep s9.fc s9.ml s9.th s9.nx s9.ct s9.nb s9.n s9.LN s9.CM s9.ρ s9.x s9.x0 s9.f s9.gk s9.g1 s9.g2 s9.g3 s9.fb s9.fB s9.fA (encS s9.ς) s9.fP s9.fO s9.g s9.fo s9.fd) := ⟨_, rfl⟩
    have eW : LCh cy a Z9 Z9 = LCh cy a s9 s9 := (LCh.left (by subst eZ; rfl) (by subst eZ; rfl) (by subst eZ; rfl) (by subst eZ; exact h1.symm) (by subst eZ; rfl) (by subst eZ; rfl) (by subst eZ; rfl) (by subst eZ; rfl) (by subst eZ; rfl) (by subst eZ; rfl) (by subst eZ; rfl) (by subst eZ; rfl) (by subst eZ; rfl) (by subst eZ; rfl) (by subst eZ; rfl) (by subst eZ; rfl) (by subst eZ; rfl) (by subst eZ; rfl) (by subst eZ; rfl) (by subst eZ; rfl) (by subst eZ; rfl) (by subst eZ; rfl)).trans (LCh.right (by subst eZ; rfl) (by subst eZ; exact h1.symm) (by subst eZ; rfl) (by subst eZ; rfl) (by subst eZ; rfl) (by subst eZ; rfl) (by subst eZ; rfl) (by subst eZ; rfl) (by subst eZ; rfl) (by subst eZ; rfl) (by subst eZ; rfl) (by subst eZ; rfl) (by subst eZ; rfl) (by subst eZ; exact h2.symm) (by subst eZ; rfl) (by subst eZ; rfl) (by subst eZ; rfl))
    rw [← eW] at hP hD
    have hI0 : LI n0 Z9 := LI.of hI (by subst eZ; rfl) (by subst eZ; rfl) (by subst eZ; rfl) (by subst eZ; exact h1.symm) (by subst eZ; exact h2.symm) (by subst eZ; rfl) (by subst eZ; rfl) (by subst eZ; rfl) (by subst eZ; rfl) (by subst eZ; rfl) (by subst eZ; rfl) (by subst eZ; rfl) (by subst eZ; rfl) (by subst eZ; rfl) (by subst eZ; rfl)
    obtain ⟨S9, eS⟩ : ∃ z : LwS, z = (LwS.mk s9.ς s9.υ s9.ς 1 s9.ep s9.fc s9.ml 0 s9.nx 0 s9.nb s9.n s9.LN s9.CM s9.ρ s9.x s9.x0 s9.f s9.gk s9.g1 s9.g2 s9.g3 s9.fb s9.fB s9.fA (encS s9.ς) s9.fP s9.fO s9.g (fun _ => (nI (nB s9.ς)).toInt64) s9.fd) := ⟨_, rfl⟩
    refine lv_aload_n hx hb dL_law_2846 rfl (lv_at hl 4 rfl) ?_
    refine lv_aload_n hx hb dL_law_2847 rfl (lv_at hl 2 rfl) ?_
    refine lw_w (mc := 0) (ms := 0) (Wc := (LCh cy a Z9 Z9)) (Wn := (LCh cy a S9 Z9)) hC (w_restore_ok l G cy kS vS a.aX a.na a.tr a.sn 1 a.hi a.sc s9.ep s9.fc a.ob a.hA s9.nx s9.ct s9.σ s9.ς a.oA s9.fo hI.2.1.1) (vx_cwSW 2 hC.S9.2.2.2.2 gL_law_L_restore rfl rfl rfl (by decide +kernel) ⟨Nat.le_of_ble_eq_true rfl, Nat.le_of_ble_eq_true rfl⟩) [0, 1, 4, 3, 24] (by subst eZ; rfl) (by decide) (SameL.cons SameA.rf (SameL.cons SameA.st (SameL.cons SameA.one (SameL.cons SameA.rf (SameL.cons SameA.one SameL.nil))))) (by subst eS; subst eZ; rfl) hP hD hS rfl hl.1 rfl (Nat.le_of_ble_eq_true rfl) ⟨hc0, hs0⟩ dL_law_2848 (fun H locs hP hD hS => ?_)
    refine lv_istore (lv' := [(6, .int 0), (5, .int (nI (4 * q))), (4, .ref a.oD), (3, .ref a.oA), (2, .ref a.am), (1, .ref a.aX), (0, .ref b)]) hx hb dL_law_2851 hl (by decide) rfl (fun ls hl => ?_)
    refine lv_aload_n hx hb dL_law_2853 rfl (lv_at hl 4 rfl) ?_
    refine lw_m (s1 := S9) (t1 := Z9) (Wn := (LCh cy a S9 S9)) hC (c_X8_restore_ok l G cy a.am a.aS a.aBf a.aAs a.aSv a.aPa a.aOu a.aTx a.aCo s9.ct s9.nb s9.LN ((s9.x0).1) s9.CM 1 s9.th (bI (s9.x0).2) s9.ep s9.fc s9.σ s9.ς) (cwV 0 hC.S9.2.2.2.2 gL_law_X8_restore rfl rfl rfl (by decide +kernel) ⟨Nat.le_of_ble_eq_true rfl, Nat.le_of_ble_eq_true rfl⟩) [15, 16, 19] (by subst eZ; rfl) (by decide) (SameR.cons (SameR.cons (SameR.cons SameR.nil))) (by subst eS; subst eZ; rfl) hP hD hS rfl hl.1 rfl (Nat.le_of_ble_eq_true rfl) ⟨hcn, hsn⟩ dL_law_2854 (fun H locs hP hD hS => ?_)
    refine lv_istore (lv' := [(7, .int (nI (nB s9.ς))), (6, .int 0), (5, .int (nI (4 * q))), (4, .ref a.oD), (3, .ref a.oA), (2, .ref a.am), (1, .ref a.aX), (0, .ref b)]) hx hb dL_law_2857 hl (by decide) rfl (fun ls hl => ?_)
    refine lv_aload_n hx hb dL_law_2859 rfl (lv_at hl 5 rfl) ?_
    refine lw_thrown (s1 := S9) (t1 := S9) (k := 0) hC hP (by subst eS; subst eZ; rfl) hl.1 (Nat.le_of_ble_eq_true rfl) ⟨hcn, hsn⟩ dL_law_2860 ?_
    refine lv_iload hx hb dL_law_2863 (lv_at hl 1 rfl) ?_
    refine lv_icmp_eq (tgt := 2870) hx hb dL_law_2865 (by decide) (fun c_2865 => ?_) (fun c_2865 => ?_)
    rotate_left
    · exact absurd c_2865 (by decide)
    refine lv_iload hx hb dL_law_2870 (lv_at hl 1 rfl) ?_
    refine lv_if_ne (tgt := 2887) hx hb dL_law_2872 (by decide) (fun c_2872 => ?_) (fun c_2872 => ?_)
    · exact absurd c_2872 (by decide)
    refine lv_aload_n hx hb dL_law_2875 rfl (lv_at hl 4 rfl) ?_
    refine lv_iconst (v := 0) hx hb dL_law_2876 (by decide) ?_
    refine lw_ldL (s1 := S9) (t1 := S9) (x := (nI (nB s9.ς)).toInt64) hC hP (by subst eS; rfl) dL_law_2877 ?_
    refine lv_iload hx hb dL_law_2878 (lv_at hl 0 rfl) ?_
    refine lv_i2l hx hb dL_law_2880 rfl ?_
    refine m_lcmp0 hx hb rfl dL_law_2881 ?_
    refine lv_if_eq (tgt := 2887) hx hb dL_law_2882 (by decide) (fun c_2882 => ?_) (fun c_2882 => ?_)
    rotate_left
    · exact absurd c_2882 (by decide)
    refine lv_goto (tgt := 2890) hx hb dL_law_2887 (by decide) ?_
    refine W.widen (k := cells + 1) (n := slots + 6) (by omega) (by omega) ?_
    exact kk S9 H locs ls (LI.of ((LI.restored hI0).mono (by omega)) (by subst eS; subst eZ; rfl) (by subst eS; subst eZ; rfl) (by subst eS; subst eZ; rfl) (by subst eS; subst eZ; rfl) (by subst eS; subst eZ; rfl) (by subst eS; subst eZ; rfl) (by subst eS; subst eZ; rfl) (by subst eS; subst eZ; rfl) (by subst eS; subst eZ; rfl) (by subst eS; subst eZ; rfl) (by subst eS; subst eZ; rfl) (by subst eS; subst eZ; rfl) (by subst eS; subst eZ; rfl) (by subst eS; subst eZ; rfl) (by subst eS; subst eZ; rfl)) hP hD hS (lv_sub hl [2, 3, 4, 5, 6, 7] rfl)
