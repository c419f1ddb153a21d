/-! the cases of the law, 1 -/
set_option maxRecDepth 100000 in
set_option maxHeartbeats 4000000 in
theorem case_14 {p : Program} {l : Launch} {e : Env} {s : State} {m : MethodId} {below : List Frame} {meth : Method} {cq : Code} {G : va_G} {cy : Nat → ClassId} {kS vS : Nat → Nat} {A : Nat → Prop} {a : LA} {b L q : Nat} {xs : Nat → Int32} {Q : State → Prop} {n0 cells slots : Nat} (hC : LC l p s m meth cq G cy kS vS A b L xs) (hq : 4 * q + 4 ≤ L) (hn0 : n0 < 1000000) (hc1 : cells + 1 ≤ room_1.cells) (hs1 : slots + 6 ≤ room_1.slots) (kk : LGo p l e s m below meth cq G cy A a b q Q (n0 + 300) (cells + 1) (slots + 6) 2890) : LGo p l e s m below meth cq G cy A a b q Q n0 cells slots 1156 := by
  intro s9 H locs ls hI hP hD hS hl
  obtain ⟨hx, hb, hml, hown, hts⟩ := id hC.S9
  have hL9 := hC.hL
  have hc0 : cells + 0 ≤ room_1.cells := Nat.le_of_succ_le hc1
  have hcn : cells ≤ room_1.cells := Nat.le_of_succ_le hc1
  have hs0 : slots + 0 ≤ room_1.slots := Nat.le_trans (Nat.le_add_right slots 6) hs1
  have hsn : slots ≤ room_1.slots := Nat.le_trans (Nat.le_add_right slots 6) hs1
  have ho := hI.1.1
  have hN0 := ho.1
  have hM0 := ho.2.1
  have hE0 := ho.2.2.1
  have hnx := hI.2.2.2.2.1
  have hct := hI.2.2.2.2.2.1
  by_cases hF : inI (xs (4 * q + 1)) (nI (nB s9.σ)) = true
  · obtain ⟨j, hj, e1⟩ := ix_of (by omega) hF
    by_cases hz : pB s9.σ j = 0
    · obtain ⟨S9, eS⟩ : ∃ z : LwS, z = (LwS.mk s9.σ s9.υ s9.ς s9.hs s9.ep s9.fc s9.ml 0 s9.nx s9.ct s9.nb s9.n s9.LN s9.CM s9.ρ s9.x s9.x0 s9.f s9.gk s9.g1 s9.g2 s9.g3 s9.fb s9.fB s9.fA s9.fV s9.fP s9.fO s9.g (fun _ => vL (pB s9.σ j)) s9.fd) := ⟨_, rfl⟩
      refine lv_aload_n hx hb dL_law_1156 rfl (lv_at hl 4 rfl) ?_
      refine lv_aload_n hx hb dL_law_1157 rfl (lv_at hl 5 rfl) ?_
      refine lv_iload hx hb dL_law_1158 (lv_at hl 0 rfl) ?_
      refine lv_iconst (v := 1) hx hb dL_law_1160 (by decide) ?_
      refine lv_iadd hx hb dL_law_1161 ?_
      refine m_sld (v := nI j) hx hb hC.hX hC.hbl hC.hbA hS (k := 4 * q + 1) (m_add rfl rfl) (by omega) hC.hL e1 dL_law_1162 ?_
      refine lv_aload_n hx hb dL_law_1163 rfl (lv_at hl 2 rfl) ?_
      refine lw_w (mc := 0) (ms := 0) (Wc := (LCh cy a s9 s9)) (Wn := (LCh cy a S9 s9)) hC (w_isPlugged_ok l G cy kS vS a.aX a.na a.tr a.sn s9.hs a.hi a.sc s9.ep s9.fc a.ob s9.σ j a.oA s9.fo hI.1.1 hj) (vx_cwSW 3 hC.S9.2.2.2.2 gL_law_L_isPlugged rfl rfl rfl (by decide +kernel) ⟨Nat.le_of_ble_eq_true rfl, Nat.le_of_ble_eq_true rfl⟩) [0, 1, 24] rfl (by decide) (SameL.cons SameA.rf (SameL.cons SameA.rf (SameL.cons SameA.one SameL.nil))) (by subst eS; rfl) hP hD hS rfl hl.1 rfl (Nat.le_of_ble_eq_true rfl) ⟨hc0, hs0⟩ dL_law_1164 (fun H locs hP hD hS => ?_)
      refine lv_istore (lv' := [(6, .int 0), (5, .int (nI (4 * q))), (4, .ref a.oD), (3, .ref a.oA), (2, .ref a.am), (1, .ref a.aX), (0, .ref b)]) hx hb dL_law_1167 hl (by decide) rfl (fun ls hl => ?_)
      refine lv_aload_n hx hb dL_law_1169 rfl (lv_at hl 4 rfl) ?_
      refine lv_aload_n hx hb dL_law_1170 rfl (lv_at hl 6 rfl) ?_
      refine lv_iload hx hb dL_law_1171 (lv_at hl 1 rfl) ?_
      refine lv_iconst (v := 1) hx hb dL_law_1173 (by decide) ?_
      refine lv_iadd hx hb dL_law_1174 ?_
      refine m_sld (v := nI j) hx hb hC.hX hC.hbl hC.hbA hS (k := 4 * q + 1) (m_add rfl rfl) (by omega) hC.hL e1 dL_law_1175 ?_
      refine lw_m (s1 := S9) (t1 := s9) (Wn := (LCh cy a S9 S9)) hC (c_X8_isPlugged_ok l G cy a.am a.aS a.aBf a.aAs a.aSv a.aPa a.aOu a.aTx a.aCo s9.ct s9.nb s9.LN ((s9.x0).1) s9.CM s9.hs s9.th (bI (s9.x0).2) s9.ep s9.fc s9.σ j hI.1.1 hj) (cwV 1 hC.S9.2.2.2.2 gL_law_X8_isPlugged rfl rfl rfl (by decide +kernel) ⟨Nat.le_of_ble_eq_true rfl, Nat.le_of_ble_eq_true rfl⟩) [15, 16] rfl (by decide) (SameR.cons (SameR.cons SameR.nil)) (by subst eS; rfl) hP hD hS rfl hl.1 rfl (Nat.le_of_ble_eq_true rfl) ⟨hcn, hsn⟩ dL_law_1176 (fun H locs hP hD hS => ?_)
      refine lv_istore (lv' := [(7, .int (if pB s9.σ j = 0 then 0 else 1)), (6, .int 0), (5, .int (nI (4 * q))), (4, .ref a.oD), (3, .ref a.oA), (2, .ref a.am), (1, .ref a.aX), (0, .ref b)]) hx hb dL_law_1179 hl (by decide) rfl (fun ls hl => ?_)
      refine lv_aload_n hx hb dL_law_1181 rfl (lv_at hl 5 rfl) ?_
      refine lw_thrown (s1 := S9) (t1 := S9) (k := 0) hC hP (by subst eS; rfl) hl.1 (Nat.le_of_ble_eq_true rfl) ⟨hcn, hsn⟩ dL_law_1182 ?_
      refine lv_iload hx hb dL_law_1185 (lv_at hl 1 rfl) ?_
      refine lv_icmp_eq (tgt := 1192) hx hb dL_law_1187 (by decide) (fun c_1187 => ?_) (fun c_1187 => ?_)
      rotate_left
      · exact absurd c_1187 (by decide)
      refine lv_iload hx hb dL_law_1192 (lv_at hl 1 rfl) ?_
      refine lv_if_ne (tgt := 1216) hx hb dL_law_1194 (by decide) (fun c_1194 => ?_) (fun c_1194 => ?_)
      · exact absurd c_1194 (by decide)
      refine lv_aload_n hx hb dL_law_1197 rfl (lv_at hl 4 rfl) ?_
      refine lv_iconst (v := 0) hx hb dL_law_1198 (by decide) ?_
      refine lw_ldL (s1 := S9) (t1 := S9) (x := vL (pB s9.σ j)) hC hP (by subst eS; rfl) dL_law_1199 ?_
      refine lv_iload hx hb dL_law_1200 (lv_at hl 0 rfl) ?_
      refine lv_if_eq (tgt := 1209) hx hb dL_law_1202 (by decide) (fun c_1202 => ?_) (fun c_1202 => ?_)
      rotate_left
      · exact absurd (if_pos hz) c_1202
      refine lv_lconst (v := 0) hx hb dL_law_1209 (by decide) ?_
      refine m_lcmp0 hx hb (if_pos hz) dL_law_1210 ?_
      refine lv_if_eq (tgt := 1216) hx hb dL_law_1211 (by decide) (fun c_1211 => ?_) (fun c_1211 => ?_)
      rotate_left
      · exact absurd c_1211 (by decide)
      refine lv_goto (tgt := 2890) hx hb dL_law_1216 (by decide) ?_
      refine W.widen (k := cells + 1) (n := slots + 6) (by omega) (by omega) ?_
      exact kk S9 H locs ls (LI.of (LI.mono hI (by omega)) (by subst eS; rfl) (by subst eS; rfl) (by subst eS; rfl) (by subst eS; rfl) (by subst eS; rfl) (by subst eS; rfl) (by subst eS; rfl) (by subst eS; rfl) (by subst eS; rfl) (by subst eS; rfl) (by subst eS; rfl) (by subst eS; rfl) (by subst eS; rfl) (by subst eS; rfl) (by subst eS; rfl)) hP hD hS (lv_sub hl [2, 3, 4, 5, 6, 7] rfl)
    · obtain ⟨S9, eS⟩ : ∃ z : LwS, z = (LwS.mk s9.σ s9.υ s9.ς s9.hs s9.ep s9.fc s9.ml 0 s9.nx s9.ct s9.nb s9.n s9.LN s9.CM s9.ρ s9.x s9.x0 s9.f s9.gk s9.g1 s9.g2 s9.g3 s9.fb s9.fB s9.fA s9.fV s9.fP s9.fO s9.g (fun _ => vL (pB s9.σ j)) s9.fd) := ⟨_, rfl⟩
      refine lv_aload_n hx hb dL_law_1156 rfl (lv_at hl 4 rfl) ?_
      refine lv_aload_n hx hb dL_law_1157 rfl (lv_at hl 5 rfl) ?_
      refine lv_iload hx hb dL_law_1158 (lv_at hl 0 rfl) ?_
      refine lv_iconst (v := 1) hx hb dL_law_1160 (by decide) ?_
      refine lv_iadd hx hb dL_law_1161 ?_
      refine m_sld (v := nI j) hx hb hC.hX hC.hbl hC.hbA hS (k := 4 * q + 1) (m_add rfl rfl) (by omega) hC.hL e1 dL_law_1162 ?_
      refine lv_aload_n hx hb dL_law_1163 rfl (lv_at hl 2 rfl) ?_
      refine lw_w (mc := 0) (ms := 0) (Wc := (LCh cy a s9 s9)) (Wn := (LCh cy a S9 s9)) hC (w_isPlugged_ok l G cy kS vS a.aX a.na a.tr a.sn s9.hs a.hi a.sc s9.ep s9.fc a.ob s9.σ j a.oA s9.fo hI.1.1 hj) (vx_cwSW 3 hC.S9.2.2.2.2 gL_law_L_isPlugged rfl rfl rfl (by decide +kernel) ⟨Nat.le_of_ble_eq_true rfl, Nat.le_of_ble_eq_true rfl⟩) [0, 1, 24] rfl (by decide) (SameL.cons SameA.rf (SameL.cons SameA.rf (SameL.cons SameA.one SameL.nil))) (by subst eS; rfl) hP hD hS rfl hl.1 rfl (Nat.le_of_ble_eq_true rfl) ⟨hc0, hs0⟩ dL_law_1164 (fun H locs hP hD hS => ?_)
      refine lv_istore (lv' := [(6, .int 0), (5, .int (nI (4 * q))), (4, .ref a.oD), (3, .ref a.oA), (2, .ref a.am), (1, .ref a.aX), (0, .ref b)]) hx hb dL_law_1167 hl (by decide) rfl (fun ls hl => ?_)
      refine lv_aload_n hx hb dL_law_1169 rfl (lv_at hl 4 rfl) ?_
      refine lv_aload_n hx hb dL_law_1170 rfl (lv_at hl 6 rfl) ?_
      refine lv_iload hx hb dL_law_1171 (lv_at hl 1 rfl) ?_
      refine lv_iconst (v := 1) hx hb dL_law_1173 (by decide) ?_
      refine lv_iadd hx hb dL_law_1174 ?_
      refine m_sld (v := nI j) hx hb hC.hX hC.hbl hC.hbA hS (k := 4 * q + 1) (m_add rfl rfl) (by omega) hC.hL e1 dL_law_1175 ?_
      refine lw_m (s1 := S9) (t1 := s9) (Wn := (LCh cy a S9 S9)) hC (c_X8_isPlugged_ok l G cy a.am a.aS a.aBf a.aAs a.aSv a.aPa a.aOu a.aTx a.aCo s9.ct s9.nb s9.LN ((s9.x0).1) s9.CM s9.hs s9.th (bI (s9.x0).2) s9.ep s9.fc s9.σ j hI.1.1 hj) (cwV 1 hC.S9.2.2.2.2 gL_law_X8_isPlugged rfl rfl rfl (by decide +kernel) ⟨Nat.le_of_ble_eq_true rfl, Nat.le_of_ble_eq_true rfl⟩) [15, 16] rfl (by decide) (SameR.cons (SameR.cons SameR.nil)) (by subst eS; rfl) hP hD hS rfl hl.1 rfl (Nat.le_of_ble_eq_true rfl) ⟨hcn, hsn⟩ dL_law_1176 (fun H locs hP hD hS => ?_)
      refine lv_istore (lv' := [(7, .int (if pB s9.σ j = 0 then 0 else 1)), (6, .int 0), (5, .int (nI (4 * q))), (4, .ref a.oD), (3, .ref a.oA), (2, .ref a.am), (1, .ref a.aX), (0, .ref b)]) hx hb dL_law_1179 hl (by decide) rfl (fun ls hl => ?_)
      refine lv_aload_n hx hb dL_law_1181 rfl (lv_at hl 5 rfl) ?_
      refine lw_thrown (s1 := S9) (t1 := S9) (k := 0) hC hP (by subst eS; rfl) hl.1 (Nat.le_of_ble_eq_true rfl) ⟨hcn, hsn⟩ dL_law_1182 ?_
      refine lv_iload hx hb dL_law_1185 (lv_at hl 1 rfl) ?_
      refine lv_icmp_eq (tgt := 1192) hx hb dL_law_1187 (by decide) (fun c_1187 => ?_) (fun c_1187 => ?_)
      rotate_left
      · exact absurd c_1187 (by decide)
      refine lv_iload hx hb dL_law_1192 (lv_at hl 1 rfl) ?_
      refine lv_if_ne (tgt := 1216) hx hb dL_law_1194 (by decide) (fun c_1194 => ?_) (fun c_1194 => ?_)
      · exact absurd c_1194 (by decide)
      refine lv_aload_n hx hb dL_law_1197 rfl (lv_at hl 4 rfl) ?_
      refine lv_iconst (v := 0) hx hb dL_law_1198 (by decide) ?_
      refine lw_ldL (s1 := S9) (t1 := S9) (x := vL (pB s9.σ j)) hC hP (by subst eS; rfl) dL_law_1199 ?_
      refine lv_iload hx hb dL_law_1200 (lv_at hl 0 rfl) ?_
      refine lv_if_eq (tgt := 1209) hx hb dL_law_1202 (by decide) (fun c_1202 => ?_) (fun c_1202 => ?_)
      · exact absurd c_1202 (by rw [if_neg hz]; decide)
      refine lv_lconst (v := 1) hx hb dL_law_1205 (by decide) ?_
      refine lv_goto (tgt := 1210) hx hb dL_law_1206 (by decide) ?_
      refine m_lcmp0 hx hb (if_neg hz) dL_law_1210 ?_
      refine lv_if_eq (tgt := 1216) hx hb dL_law_1211 (by decide) (fun c_1211 => ?_) (fun c_1211 => ?_)
      rotate_left
      · exact absurd c_1211 (by decide)
      refine lv_goto (tgt := 2890) hx hb dL_law_1216 (by decide) ?_
      refine W.widen (k := cells + 1) (n := slots + 6) (by omega) (by omega) ?_
      exact kk S9 H locs ls (LI.of (LI.mono hI (by omega)) (by subst eS; rfl) (by subst eS; rfl) (by subst eS; rfl) (by subst eS; rfl) (by subst eS; rfl) (by subst eS; rfl) (by subst eS; rfl) (by subst eS; rfl) (by subst eS; rfl) (by subst eS; rfl) (by subst eS; rfl) (by subst eS; rfl) (by subst eS; rfl) (by subst eS; rfl) (by subst eS; rfl)) hP hD hS (lv_sub hl [2, 3, 4, 5, 6, 7] rfl)
  · obtain ⟨S9, eS⟩ : ∃ z : LwS, z = (LwS.mk s9.σ s9.υ s9.ς s9.hs s9.ep s9.fc s9.ml 1 s9.nx s9.ct s9.nb s9.n s9.LN s9.CM s9.ρ s9.x s9.x0 s9.f s9.gk s9.g1 s9.g2 s9.g3 s9.fb s9.fB s9.fA s9.fV s9.fP s9.fO s9.g s9.fo s9.fd) := ⟨_, rfl⟩
    refine lv_aload_n hx hb dL_law_1156 rfl (lv_at hl 4 rfl) ?_
    refine lv_aload_n hx hb dL_law_1157 rfl (lv_at hl 5 rfl) ?_
    refine lv_iload hx hb dL_law_1158 (lv_at hl 0 rfl) ?_
    refine lv_iconst (v := 1) hx hb dL_law_1160 (by decide) ?_
    refine lv_iadd hx hb dL_law_1161 ?_
    refine m_sld (v := xs (4 * q + 1)) hx hb hC.hX hC.hbl hC.hbA hS (k := 4 * q + 1) (m_add rfl rfl) (by omega) hC.hL rfl dL_law_1162 ?_
    refine lv_aload_n hx hb dL_law_1163 rfl (lv_at hl 2 rfl) ?_
    refine lw_w (mc := 1) (ms := 6) (Wc := (LCh cy a s9 s9)) (Wn := (LCh cy a S9 s9)) hC (w_isPlugged_1 l G cy kS vS a.aX a.na a.tr a.sn s9.hs a.hi a.sc s9.ep s9.fc a.ob s9.σ (xs (4 * q + 1)) a.oA s9.fo hC.hl9 hI.1.1 hF) (vx_cwSW 3 hC.S9.2.2.2.2 gL_law_L_isPlugged rfl rfl rfl (by decide +kernel) ⟨Nat.le_of_ble_eq_true rfl, Nat.le_of_ble_eq_true rfl⟩) [0, 1, 24] rfl (by decide) (SameL.cons SameA.rf (SameL.cons SameA.rf (SameL.cons SameA.rf SameL.nil))) (by subst eS; rfl) hP hD hS rfl hl.1 rfl (Nat.le_of_ble_eq_true rfl) ⟨hc1, hs1⟩ dL_law_1164 (fun H locs hP hD hS => ?_)
    refine lv_istore (lv' := [(6, .int 1), (5, .int (nI (4 * q))), (4, .ref a.oD), (3, .ref a.oA), (2, .ref a.am), (1, .ref a.aX), (0, .ref b)]) hx hb dL_law_1167 hl (by decide) rfl (fun ls hl => ?_)
    refine lv_aload_n hx hb dL_law_1169 rfl (lv_at hl 4 rfl) ?_
    refine lv_aload_n hx hb dL_law_1170 rfl (lv_at hl 6 rfl) ?_
    refine lv_iload hx hb dL_law_1171 (lv_at hl 1 rfl) ?_
    refine lv_iconst (v := 1) hx hb dL_law_1173 (by decide) ?_
    refine lv_iadd hx hb dL_law_1174 ?_
    refine m_sld (v := xs (4 * q + 1)) hx hb hC.hX hC.hbl hC.hbA hS (k := 4 * q + 1) (m_add rfl rfl) (by omega) hC.hL rfl dL_law_1175 ?_
    refine lw_m (s1 := S9) (t1 := s9) (Wn := (LCh cy a S9 S9)) hC (c_X8_isPlugged_no l G cy a.am a.aS a.aBf a.aAs a.aSv a.aPa a.aOu a.aTx a.aCo s9.ct s9.nb s9.LN ((s9.x0).1) s9.CM s9.hs s9.th (bI (s9.x0).2) s9.ep s9.fc s9.σ (xs (4 * q + 1)) hI.1.1 hF) (cwV 1 hC.S9.2.2.2.2 gL_law_X8_isPlugged rfl rfl rfl (by decide +kernel) ⟨Nat.le_of_ble_eq_true rfl, Nat.le_of_ble_eq_true rfl⟩) [15, 16] rfl (by decide) (SameR.cons (SameR.cons SameR.nil)) (by subst eS; rfl) hP hD hS rfl hl.1 rfl (Nat.le_of_ble_eq_true rfl) ⟨hc1, hs1⟩ dL_law_1176 (fun H locs hP hD hS => ?_)
    refine lv_istore (lv' := [(7, .int 0), (6, .int 1), (5, .int (nI (4 * q))), (4, .ref a.oD), (3, .ref a.oA), (2, .ref a.am), (1, .ref a.aX), (0, .ref b)]) hx hb dL_law_1179 hl (by decide) rfl (fun ls hl => ?_)
    refine lv_aload_n hx hb dL_law_1181 rfl (lv_at hl 5 rfl) ?_
    refine lw_thrown (s1 := S9) (t1 := S9) (k := 1) hC hP (by subst eS; rfl) hl.1 (Nat.le_of_ble_eq_true rfl) ⟨hc1, hs1⟩ dL_law_1182 ?_
    refine lv_iload hx hb dL_law_1185 (lv_at hl 1 rfl) ?_
    refine lv_icmp_eq (tgt := 1192) hx hb dL_law_1187 (by decide) (fun c_1187 => ?_) (fun c_1187 => ?_)
    rotate_left
    · exact absurd c_1187 (by decide)
    refine lv_iload hx hb dL_law_1192 (lv_at hl 1 rfl) ?_
    refine lv_if_ne (tgt := 1216) hx hb dL_law_1194 (by decide) (fun c_1194 => ?_) (fun c_1194 => ?_)
    rotate_left
    · exact absurd c_1194 (by decide)
    refine lv_goto (tgt := 2890) hx hb dL_law_1216 (by decide) ?_
    exact kk S9 H locs ls (LI.of (LI.mono hI (by omega)) (by subst eS; rfl) (by subst eS; rfl) (by subst eS; rfl) (by subst eS; rfl) (by subst eS; rfl) (by subst eS; rfl) (by subst eS; rfl) (by subst eS; rfl) (by subst eS; rfl) (by subst eS; rfl) (by subst eS; rfl) (by subst eS; rfl) (by subst eS; rfl) (by subst eS; rfl) (by subst eS; rfl)) hP hD hS (lv_sub hl [2, 3, 4, 5, 6, 7] rfl)

set_option maxRecDepth 100000 in
set_option maxHeartbeats 4000000 in
theorem case_15 {p : Program} {l : Launch} {e : Env} {s : State} {m : MethodId} {below : List Frame} {meth : Method} {cq : Code} {G : va_G} {cy : Nat → ClassId} {kS vS : Nat → Nat} {A : Nat → Prop} {a : LA} {b L q : Nat} {xs : Nat → Int32} {Q : State → Prop} {n0 cells slots : Nat} (hC : LC l p s m meth cq G cy kS vS A b L xs) (hq : 4 * q + 4 ≤ L) (hn0 : n0 < 1000000) (hc1 : cells + 1 ≤ room_1.cells) (hs1 : slots + 6 ≤ room_1.slots) (kk : LGo p l e s m below meth cq G cy A a b q Q (n0 + 300) (cells + 1) (slots + 6) 2890) : LGo p l e s m below meth cq G cy A a b q Q n0 cells slots 1219 := by
  intro s9 H locs ls hI hP hD hS hl
  obtain ⟨hx, hb, hml, hown, hts⟩ := id hC.S9
  have hL9 := hC.hL
  have hc0 : cells + 0 ≤ room_1.cells := Nat.le_of_succ_le hc1
  have hcn : cells ≤ room_1.cells := Nat.le_of_succ_le hc1
  have hs0 : slots + 0 ≤ room_1.slots := Nat.le_trans (Nat.le_add_right slots 6) hs1
  have hsn : slots ≤ room_1.slots := Nat.le_trans (Nat.le_add_right slots 6) hs1
  have ho := hI.1.1
  have hN0 := ho.1
  have hM0 := ho.2.1
  have hE0 := ho.2.2.1
  have hnx := hI.2.2.2.2.1
  have hct := hI.2.2.2.2.2.1
  by_cases hF : inI (xs (4 * q + 1)) (nI (nB s9.σ)) = true
  · obtain ⟨j, hj, e1⟩ := ix_of (by omega) hF
    have hF2 : inI (nI j) (nI (nB s9.σ)) = true := by rw [← e1]; exact hF
    obtain ⟨S9, eS⟩ : ∃ z : LwS, z = (LwS.mk s9.σ s9.υ s9.ς s9.hs s9.ep s9.fc s9.ml 0 s9.nx s9.ct s9.nb s9.n s9.LN s9.CM s9.ρ s9.x s9.x0 s9.f s9.gk s9.g1 s9.g2 s9.g3 s9.fb s9.fB s9.fA s9.fV s9.fP s9.fO s9.g (fun _ => (atF (fun j => rkN (vB s9.σ) (hB s9.σ) j (nB s9.σ)) (nI j) 0 (nB s9.σ)).toInt64) s9.fd) := ⟨_, rfl⟩
    refine lv_aload_n hx hb dL_law_1219 rfl (lv_at hl 4 rfl) ?_
    refine lv_aload_n hx hb dL_law_1220 rfl (lv_at hl 5 rfl) ?_
    refine lv_iload hx hb dL_law_1221 (lv_at hl 0 rfl) ?_
    refine lv_iconst (v := 1) hx hb dL_law_1223 (by decide) ?_
    refine lv_iadd hx hb dL_law_1224 ?_
    refine m_sld (v := nI j) hx hb hC.hX hC.hbl hC.hbA hS (k := 4 * q + 1) (m_add rfl rfl) (by omega) hC.hL e1 dL_law_1225 ?_
    refine lv_aload_n hx hb dL_law_1226 rfl (lv_at hl 2 rfl) ?_
    refine lw_w (mc := 0) (ms := 0) (Wc := (LCh cy a s9 s9)) (Wn := (LCh cy a S9 s9)) hC (w_bathByTemperature_ok l G cy kS vS a.aX a.na a.tr a.sn s9.hs a.hi a.sc s9.ep s9.fc a.ob s9.σ j a.oA s9.fo hI.1.1 hj) (vx_cwSW 3 hC.S9.2.2.2.2 gL_law_L_bathByTemperature rfl rfl rfl (by decide +kernel) ⟨Nat.le_of_ble_eq_true rfl, Nat.le_of_ble_eq_true rfl⟩) [0, 1, 24] rfl (by decide) (SameL.cons SameA.rf (SameL.cons SameA.rf (SameL.cons SameA.one SameL.nil))) (by subst eS; rfl) hP hD hS rfl hl.1 rfl (Nat.le_of_ble_eq_true rfl) ⟨hc0, hs0⟩ dL_law_1227 (fun H locs hP hD hS => ?_)
    refine lv_istore (lv' := [(6, .int 0), (5, .int (nI (4 * q))), (4, .ref a.oD), (3, .ref a.oA), (2, .ref a.am), (1, .ref a.aX), (0, .ref b)]) hx hb dL_law_1230 hl (by decide) rfl (fun ls hl => ?_)
    refine lv_aload_n hx hb dL_law_1232 rfl (lv_at hl 4 rfl) ?_
    refine lv_aload_n hx hb dL_law_1233 rfl (lv_at hl 6 rfl) ?_
    refine lv_iload hx hb dL_law_1234 (lv_at hl 1 rfl) ?_
    refine lv_iconst (v := 1) hx hb dL_law_1236 (by decide) ?_
    refine lv_iadd hx hb dL_law_1237 ?_
    refine m_sld (v := nI j) hx hb hC.hX hC.hbl hC.hbA hS (k := 4 * q + 1) (m_add rfl rfl) (by omega) hC.hL e1 dL_law_1238 ?_
    refine lw_m (s1 := S9) (t1 := s9) (Wn := (LCh cy a S9 S9)) hC (c_X8_bathByTemperature_ok l G cy a.am a.aS a.aBf a.aAs a.aSv a.aPa a.aOu a.aTx a.aCo s9.ct s9.nb s9.LN ((s9.x0).1) s9.CM s9.hs s9.th (bI (s9.x0).2) s9.ep s9.fc s9.σ (nI j) hI.1.1 hF2 hI.1.bd) (cwV 1 hC.S9.2.2.2.2 gL_law_X8_bathByTemperature rfl rfl rfl (by decide +kernel) ⟨Nat.le_of_ble_eq_true rfl, Nat.le_of_ble_eq_true rfl⟩) [15, 16] rfl (by decide) (SameR.cons (SameR.cons SameR.nil)) (by subst eS; rfl) hP hD hS rfl hl.1 rfl (Nat.le_of_ble_eq_true rfl) ⟨hcn, hsn⟩ dL_law_1239 (fun H locs hP hD hS => ?_)
    refine lv_istore (lv' := [(7, .int (lasF (fun b9 => rkN (vB s9.σ) (hB s9.σ) b9 (nB s9.σ)) (nI j) (nB s9.σ))), (6, .int 0), (5, .int (nI (4 * q))), (4, .ref a.oD), (3, .ref a.oA), (2, .ref a.am), (1, .ref a.aX), (0, .ref b)]) hx hb dL_law_1242 hl (by decide) rfl (fun ls hl => ?_)
    refine lv_aload_n hx hb dL_law_1244 rfl (lv_at hl 5 rfl) ?_
    refine lw_thrown (s1 := S9) (t1 := S9) (k := 0) hC hP (by subst eS; rfl) hl.1 (Nat.le_of_ble_eq_true rfl) ⟨hcn, hsn⟩ dL_law_1245 ?_
    refine lv_iload hx hb dL_law_1248 (lv_at hl 1 rfl) ?_
    refine lv_icmp_eq (tgt := 1255) hx hb dL_law_1250 (by decide) (fun c_1250 => ?_) (fun c_1250 => ?_)
    rotate_left
    · exact absurd c_1250 (by decide)
    refine lv_iload hx hb dL_law_1255 (lv_at hl 1 rfl) ?_
    refine lv_if_ne (tgt := 1272) hx hb dL_law_1257 (by decide) (fun c_1257 => ?_) (fun c_1257 => ?_)
    · exact absurd c_1257 (by decide)
    refine lv_aload_n hx hb dL_law_1260 rfl (lv_at hl 4 rfl) ?_
    refine lv_iconst (v := 0) hx hb dL_law_1261 (by decide) ?_
    refine lw_ldL (s1 := S9) (t1 := S9) (x := (atF (fun j => rkN (vB s9.σ) (hB s9.σ) j (nB s9.σ)) (nI j) 0 (nB s9.σ)).toInt64) hC hP (by subst eS; rfl) dL_law_1262 ?_
    refine lv_iload hx hb dL_law_1263 (lv_at hl 0 rfl) ?_
    refine lv_i2l hx hb dL_law_1265 rfl ?_
    refine m_lcmp0 hx hb (congrArg Int32.toInt64 (bath_rank hI.1.bd hN0 hj)) dL_law_1266 ?_
    refine lv_if_eq (tgt := 1272) hx hb dL_law_1267 (by decide) (fun c_1267 => ?_) (fun c_1267 => ?_)
    rotate_left
    · exact absurd c_1267 (by decide)
    refine lv_goto (tgt := 2890) hx hb dL_law_1272 (by decide) ?_
    refine W.widen (k := cells + 1) (n := slots + 6) (by omega) (by omega) ?_
    exact kk S9 H locs ls (LI.of (LI.mono hI (by omega)) (by subst eS; rfl) (by subst eS; rfl) (by subst eS; rfl) (by subst eS; rfl) (by subst eS; rfl) (by subst eS; rfl) (by subst eS; rfl) (by subst eS; rfl) (by subst eS; rfl) (by subst eS; rfl) (by subst eS; rfl) (by subst eS; rfl) (by subst eS; rfl) (by subst eS; rfl) (by subst eS; rfl)) hP hD hS (lv_sub hl [2, 3, 4, 5, 6, 7] rfl)
  · obtain ⟨S9, eS⟩ : ∃ z : LwS, z = (LwS.mk s9.σ s9.υ s9.ς s9.hs s9.ep s9.fc s9.ml 1 s9.nx s9.ct s9.nb s9.n s9.LN s9.CM s9.ρ s9.x s9.x0 s9.f s9.gk s9.g1 s9.g2 s9.g3 s9.fb s9.fB s9.fA s9.fV s9.fP s9.fO s9.g s9.fo s9.fd) := ⟨_, rfl⟩
    refine lv_aload_n hx hb dL_law_1219 rfl (lv_at hl 4 rfl) ?_
    refine lv_aload_n hx hb dL_law_1220 rfl (lv_at hl 5 rfl) ?_
    refine lv_iload hx hb dL_law_1221 (lv_at hl 0 rfl) ?_
    refine lv_iconst (v := 1) hx hb dL_law_1223 (by decide) ?_
    refine lv_iadd hx hb dL_law_1224 ?_
    refine m_sld (v := xs (4 * q + 1)) hx hb hC.hX hC.hbl hC.hbA hS (k := 4 * q + 1) (m_add rfl rfl) (by omega) hC.hL rfl dL_law_1225 ?_
    refine lv_aload_n hx hb dL_law_1226 rfl (lv_at hl 2 rfl) ?_
    refine lw_w (mc := 1) (ms := 6) (Wc := (LCh cy a s9 s9)) (Wn := (LCh cy a S9 s9)) hC (w_bathByTemperature_t l G cy kS vS a.aX a.na a.tr a.sn s9.hs a.hi a.sc s9.ep s9.fc a.ob s9.σ (xs (4 * q + 1)) a.oA s9.fo hC.hl9 hI.1.1 hF) (vx_cwSW 3 hC.S9.2.2.2.2 gL_law_L_bathByTemperature rfl rfl rfl (by decide +kernel) ⟨Nat.le_of_ble_eq_true rfl, Nat.le_of_ble_eq_true rfl⟩) [0, 1, 24] rfl (by decide) (SameL.cons SameA.rf (SameL.cons SameA.rf (SameL.cons SameA.rf SameL.nil))) (by subst eS; rfl) hP hD hS rfl hl.1 rfl (Nat.le_of_ble_eq_true rfl) ⟨hc1, hs1⟩ dL_law_1227 (fun H locs hP hD hS => ?_)
    refine lv_istore (lv' := [(6, .int 1), (5, .int (nI (4 * q))), (4, .ref a.oD), (3, .ref a.oA), (2, .ref a.am), (1, .ref a.aX), (0, .ref b)]) hx hb dL_law_1230 hl (by decide) rfl (fun ls hl => ?_)
    refine lv_aload_n hx hb dL_law_1232 rfl (lv_at hl 4 rfl) ?_
    refine lv_aload_n hx hb dL_law_1233 rfl (lv_at hl 6 rfl) ?_
    refine lv_iload hx hb dL_law_1234 (lv_at hl 1 rfl) ?_
    refine lv_iconst (v := 1) hx hb dL_law_1236 (by decide) ?_
    refine lv_iadd hx hb dL_law_1237 ?_
    refine m_sld (v := xs (4 * q + 1)) hx hb hC.hX hC.hbl hC.hbA hS (k := 4 * q + 1) (m_add rfl rfl) (by omega) hC.hL rfl dL_law_1238 ?_
    refine lw_m (s1 := S9) (t1 := s9) (Wn := (LCh cy a S9 S9)) hC (c_X8_bathByTemperature_no l G cy a.am a.aS a.aBf a.aAs a.aSv a.aPa a.aOu a.aTx a.aCo s9.ct s9.nb s9.LN ((s9.x0).1) s9.CM s9.hs s9.th (bI (s9.x0).2) s9.ep s9.fc s9.σ (xs (4 * q + 1)) hI.1.1 hF) (cwV 1 hC.S9.2.2.2.2 gL_law_X8_bathByTemperature rfl rfl rfl (by decide +kernel) ⟨Nat.le_of_ble_eq_true rfl, Nat.le_of_ble_eq_true rfl⟩) [15, 16] rfl (by decide) (SameR.cons (SameR.cons SameR.nil)) (by subst eS; rfl) hP hD hS rfl hl.1 rfl (Nat.le_of_ble_eq_true rfl) ⟨hc1, hs1⟩ dL_law_1239 (fun H locs hP hD hS => ?_)
    refine lv_istore (lv' := [(7, .int 0), (6, .int 1), (5, .int (nI (4 * q))), (4, .ref a.oD), (3, .ref a.oA), (2, .ref a.am), (1, .ref a.aX), (0, .ref b)]) hx hb dL_law_1242 hl (by decide) rfl (fun ls hl => ?_)
    refine lv_aload_n hx hb dL_law_1244 rfl (lv_at hl 5 rfl) ?_
    refine lw_thrown (s1 := S9) (t1 := S9) (k := 1) hC hP (by subst eS; rfl) hl.1 (Nat.le_of_ble_eq_true rfl) ⟨hc1, hs1⟩ dL_law_1245 ?_
    refine lv_iload hx hb dL_law_1248 (lv_at hl 1 rfl) ?_
    refine lv_icmp_eq (tgt := 1255) hx hb dL_law_1250 (by decide) (fun c_1250 => ?_) (fun c_1250 => ?_)
    rotate_left
    · exact absurd c_1250 (by decide)
    refine lv_iload hx hb dL_law_1255 (lv_at hl 1 rfl) ?_
    refine lv_if_ne (tgt := 1272) hx hb dL_law_1257 (by decide) (fun c_1257 => ?_) (fun c_1257 => ?_)
    rotate_left
    · exact absurd c_1257 (by decide)
    refine lv_goto (tgt := 2890) hx hb dL_law_1272 (by decide) ?_
    exact kk S9 H locs ls (LI.of (LI.mono hI (by omega)) (by subst eS; rfl) (by subst eS; rfl) (by subst eS; rfl) (by subst eS; rfl) (by subst eS; rfl) (by subst eS; rfl) (by subst eS; rfl) (by subst eS; rfl) (by subst eS; rfl) (by subst eS; rfl) (by subst eS; rfl) (by subst eS; rfl) (by subst eS; rfl) (by subst eS; rfl) (by subst eS; rfl)) hP hD hS (lv_sub hl [2, 3, 4, 5, 6, 7] rfl)

set_option maxRecDepth 100000 in
set_option maxHeartbeats 4000000 in
theorem case_16 {p : Program} {l : Launch} {e : Env} {s : State} {m : MethodId} {below : List Frame} {meth : Method} {cq : Code} {G : va_G} {cy : Nat → ClassId} {kS vS : Nat → Nat} {A : Nat → Prop} {a : LA} {b L q : Nat} {xs : Nat → Int32} {Q : State → Prop} {n0 cells slots : Nat} (hC : LC l p s m meth cq G cy kS vS A b L xs) (hq : 4 * q + 4 ≤ L) (hn0 : n0 < 1000000) (hc1 : cells + 1 ≤ room_1.cells) (hs1 : slots + 6 ≤ room_1.slots) (kk : LGo p l e s m below meth cq G cy A a b q Q (n0 + 300) (cells + 1) (slots + 6) 2890) : LGo p l e s m below meth cq G cy A a b q Q n0 cells slots 1275 := by
  intro s9 H locs ls hI hP hD hS hl
  obtain ⟨hx, hb, hml, hown, hts⟩ := id hC.S9
  have hL9 := hC.hL
  have hc0 : cells + 0 ≤ room_1.cells := Nat.le_of_succ_le hc1
  have hcn : cells ≤ room_1.cells := Nat.le_of_succ_le hc1
  have hs0 : slots + 0 ≤ room_1.slots := Nat.le_trans (Nat.le_add_right slots 6) hs1
  have hsn : slots ≤ room_1.slots := Nat.le_trans (Nat.le_add_right slots 6) hs1
  have ho := hI.1.1
  have hN0 := ho.1
  have hM0 := ho.2.1
  have hE0 := ho.2.2.1
  have hnx := hI.2.2.2.2.1
  have hct := hI.2.2.2.2.2.1
  by_cases hF : inI (xs (4 * q + 1)) (nI (nB s9.σ)) = true
  · obtain ⟨j, hj, e1⟩ := ix_of (by omega) hF
    by_cases ht : tapB (xs (4 * q + 2)) = true
    · by_cases hg : inR (xs (4 * q + 3)) 0 99 = true
      · by_cases hwt : wet (vB s9.σ) j = true
        · by_cases hR : atF (ltF (vB s9.σ j) (hB s9.σ j) (xs (4 * q + 2)) (xs (4 * q + 3))) 1 0 (101 - bx (vB s9.σ j)) = -1
          · obtain ⟨S9, eS⟩ : ∃ z : LwS, z = (LwS.mk s9.σ s9.υ s9.ς s9.hs s9.ep s9.fc s9.ml 4 s9.nx s9.ct s9.nb s9.n s9.LN s9.CM s9.ρ s9.x s9.x0 s9.f s9.gk s9.g1 s9.g2 s9.g3 s9.fb s9.fB s9.fA s9.fV s9.fP s9.fO s9.g s9.fo s9.fd) := ⟨_, rfl⟩
            refine lv_aload_n hx hb dL_law_1275 rfl (lv_at hl 4 rfl) ?_
            refine lv_aload_n hx hb dL_law_1276 rfl (lv_at hl 5 rfl) ?_
            refine lv_iload hx hb dL_law_1277 (lv_at hl 0 rfl) ?_
            refine lv_iconst (v := 1) hx hb dL_law_1279 (by decide) ?_
            refine lv_iadd hx hb dL_law_1280 ?_
            refine m_sld (v := nI j) hx hb hC.hX hC.hbl hC.hbA hS (k := 4 * q + 1) (m_add rfl rfl) (by omega) hC.hL e1 dL_law_1281 ?_
            refine lv_aload_n hx hb dL_law_1282 rfl (lv_at hl 5 rfl) ?_
            refine lv_iload hx hb dL_law_1283 (lv_at hl 0 rfl) ?_
            refine lv_iconst (v := 2) hx hb dL_law_1285 (by decide) ?_
            refine lv_iadd hx hb dL_law_1286 ?_
            refine m_sld (v := xs (4 * q + 2)) hx hb hC.hX hC.hbl hC.hbA hS (k := 4 * q + 2) (m_add rfl rfl) (by omega) hC.hL rfl dL_law_1287 ?_
            refine lv_aload_n hx hb dL_law_1288 rfl (lv_at hl 5 rfl) ?_
            refine lv_iload hx hb dL_law_1289 (lv_at hl 0 rfl) ?_
            refine lv_iconst (v := 3) hx hb dL_law_1291 (by decide) ?_
            refine lv_iadd hx hb dL_law_1292 ?_
            refine m_sld (v := xs (4 * q + 3)) hx hb hC.hX hC.hbl hC.hbA hS (k := 4 * q + 3) (m_add rfl rfl) (by omega) hC.hL rfl dL_law_1293 ?_
            refine lv_aload_n hx hb dL_law_1294 rfl (lv_at hl 2 rfl) ?_
            refine lw_w (mc := 1) (ms := 6) (Wc := (LCh cy a s9 s9)) (Wn := (LCh cy a S9 s9)) hC (w_litresToReach_4 l G cy kS vS a.aX a.na a.tr a.sn s9.hs a.hi a.sc s9.ep s9.fc a.ob s9.σ j (xs (4 * q + 2)) (xs (4 * q + 3)) (atF (ltF (vB s9.σ j) (hB s9.σ j) (xs (4 * q + 2)) (xs (4 * q + 3))) 1 0 (101 - bx (vB s9.σ j))) a.oA s9.fo hC.hl9 hI.1.1 hj hI.1.bd ht hg hwt rfl hR) (vx_cwSW 5 hC.S9.2.2.2.2 gL_law_L_litresToReach rfl rfl rfl (by decide +kernel) ⟨Nat.le_of_ble_eq_true rfl, Nat.le_of_ble_eq_true rfl⟩) [0, 1, 24] rfl (by decide) (SameL.cons SameA.rf (SameL.cons SameA.rf (SameL.cons SameA.rf SameL.nil))) (by subst eS; rfl) hP hD hS rfl hl.1 rfl (Nat.le_of_ble_eq_true rfl) ⟨hc1, hs1⟩ dL_law_1295 (fun H locs hP hD hS => ?_)
            refine lv_istore (lv' := [(6, .int 4), (5, .int (nI (4 * q))), (4, .ref a.oD), (3, .ref a.oA), (2, .ref a.am), (1, .ref a.aX), (0, .ref b)]) hx hb dL_law_1298 hl (by decide) rfl (fun ls hl => ?_)
            refine lv_aload_n hx hb dL_law_1300 rfl (lv_at hl 4 rfl) ?_
            refine lv_aload_n hx hb dL_law_1301 rfl (lv_at hl 6 rfl) ?_
            refine lv_iload hx hb dL_law_1302 (lv_at hl 1 rfl) ?_
            refine lv_iconst (v := 1) hx hb dL_law_1304 (by decide) ?_
            refine lv_iadd hx hb dL_law_1305 ?_
            refine m_sld (v := nI j) hx hb hC.hX hC.hbl hC.hbA hS (k := 4 * q + 1) (m_add rfl rfl) (by omega) hC.hL e1 dL_law_1306 ?_
            refine lv_aload_n hx hb dL_law_1307 rfl (lv_at hl 6 rfl) ?_
            refine lv_iload hx hb dL_law_1308 (lv_at hl 1 rfl) ?_
            refine lv_iconst (v := 2) hx hb dL_law_1310 (by decide) ?_
            refine lv_iadd hx hb dL_law_1311 ?_
            refine m_sld (v := xs (4 * q + 2)) hx hb hC.hX hC.hbl hC.hbA hS (k := 4 * q + 2) (m_add rfl rfl) (by omega) hC.hL rfl dL_law_1312 ?_
            refine lv_aload_n hx hb dL_law_1313 rfl (lv_at hl 6 rfl) ?_
            refine lv_iload hx hb dL_law_1314 (lv_at hl 1 rfl) ?_
            refine lv_iconst (v := 3) hx hb dL_law_1316 (by decide) ?_
            refine lv_iadd hx hb dL_law_1317 ?_
            refine m_sld (v := xs (4 * q + 3)) hx hb hC.hX hC.hbl hC.hbA hS (k := 4 * q + 3) (m_add rfl rfl) (by omega) hC.hL rfl dL_law_1318 ?_
            refine lw_m (s1 := S9) (t1 := s9) (Wn := (LCh cy a S9 S9)) hC (c_X8_litresToReach_no4 l G cy a.am a.aS a.aBf a.aAs a.aSv a.aPa a.aOu a.aTx a.aCo s9.ct s9.nb s9.LN ((s9.x0).1) s9.CM s9.hs s9.th (bI (s9.x0).2) s9.ep s9.fc s9.σ j (xs (4 * q + 2)) (xs (4 * q + 3)) hI.1.1 hj hI.1.bd ht hg hwt hR) (cwV 3 hC.S9.2.2.2.2 gL_law_X8_litresToReach rfl rfl rfl (by decide +kernel) ⟨Nat.le_of_ble_eq_true rfl, Nat.le_of_ble_eq_true rfl⟩) [15, 16] rfl (by decide) (SameR.cons (SameR.cons SameR.nil)) (by subst eS; rfl) hP hD hS rfl hl.1 rfl (Nat.le_of_ble_eq_true rfl) ⟨hc1, hs1⟩ dL_law_1319 (fun H locs hP hD hS => ?_)
            refine lv_istore (lv' := [(7, .int 0), (6, .int 4), (5, .int (nI (4 * q))), (4, .ref a.oD), (3, .ref a.oA), (2, .ref a.am), (1, .ref a.aX), (0, .ref b)]) hx hb dL_law_1322 hl (by decide) rfl (fun ls hl => ?_)
            refine lv_aload_n hx hb dL_law_1324 rfl (lv_at hl 5 rfl) ?_
            refine lw_thrown (s1 := S9) (t1 := S9) (k := 4) hC hP (by subst eS; rfl) hl.1 (Nat.le_of_ble_eq_true rfl) ⟨hc1, hs1⟩ dL_law_1325 ?_
            refine lv_iload hx hb dL_law_1328 (lv_at hl 1 rfl) ?_
            refine lv_icmp_eq (tgt := 1335) hx hb dL_law_1330 (by decide) (fun c_1330 => ?_) (fun c_1330 => ?_)
            rotate_left
            · exact absurd c_1330 (by decide)
            refine lv_iload hx hb dL_law_1335 (lv_at hl 1 rfl) ?_
            refine lv_if_ne (tgt := 1352) hx hb dL_law_1337 (by decide) (fun c_1337 => ?_) (fun c_1337 => ?_)
            rotate_left
            · exact absurd c_1337 (by decide)
            refine lv_goto (tgt := 2890) hx hb dL_law_1352 (by decide) ?_
            exact kk S9 H locs ls (LI.of (LI.mono hI (by omega)) (by subst eS; rfl) (by subst eS; rfl) (by subst eS; rfl) (by subst eS; rfl) (by subst eS; rfl) (by subst eS; rfl) (by subst eS; rfl) (by subst eS; rfl) (by subst eS; rfl) (by subst eS; rfl) (by subst eS; rfl) (by subst eS; rfl) (by subst eS; rfl) (by subst eS; rfl) (by subst eS; rfl)) hP hD hS (lv_sub hl [2, 3, 4, 5, 6, 7] rfl)
          · obtain ⟨S9, eS⟩ : ∃ z : LwS, z = (LwS.mk s9.σ s9.υ s9.ς s9.hs s9.ep s9.fc s9.ml 0 s9.nx s9.ct s9.nb s9.n s9.LN s9.CM s9.ρ s9.x s9.x0 s9.f s9.gk s9.g1 s9.g2 s9.g3 s9.fb s9.fB s9.fA s9.fV s9.fP s9.fO s9.g (fun _ => (atF (ltF (vB s9.σ j) (hB s9.σ j) (xs (4 * q + 2)) (xs (4 * q + 3))) 1 0 (101 - bx (vB s9.σ j))).toInt64) s9.fd) := ⟨_, rfl⟩
            refine lv_aload_n hx hb dL_law_1275 rfl (lv_at hl 4 rfl) ?_
            refine lv_aload_n hx hb dL_law_1276 rfl (lv_at hl 5 rfl) ?_
            refine lv_iload hx hb dL_law_1277 (lv_at hl 0 rfl) ?_
            refine lv_iconst (v := 1) hx hb dL_law_1279 (by decide) ?_
            refine lv_iadd hx hb dL_law_1280 ?_
            refine m_sld (v := nI j) hx hb hC.hX hC.hbl hC.hbA hS (k := 4 * q + 1) (m_add rfl rfl) (by omega) hC.hL e1 dL_law_1281 ?_
            refine lv_aload_n hx hb dL_law_1282 rfl (lv_at hl 5 rfl) ?_
            refine lv_iload hx hb dL_law_1283 (lv_at hl 0 rfl) ?_
            refine lv_iconst (v := 2) hx hb dL_law_1285 (by decide) ?_
            refine lv_iadd hx hb dL_law_1286 ?_
            refine m_sld (v := xs (4 * q + 2)) hx hb hC.hX hC.hbl hC.hbA hS (k := 4 * q + 2) (m_add rfl rfl) (by omega) hC.hL rfl dL_law_1287 ?_
            refine lv_aload_n hx hb dL_law_1288 rfl (lv_at hl 5 rfl) ?_
            refine lv_iload hx hb dL_law_1289 (lv_at hl 0 rfl) ?_
            refine lv_iconst (v := 3) hx hb dL_law_1291 (by decide) ?_
            refine lv_iadd hx hb dL_law_1292 ?_
            refine m_sld (v := xs (4 * q + 3)) hx hb hC.hX hC.hbl hC.hbA hS (k := 4 * q + 3) (m_add rfl rfl) (by omega) hC.hL rfl dL_law_1293 ?_
            refine lv_aload_n hx hb dL_law_1294 rfl (lv_at hl 2 rfl) ?_
            refine lw_w (mc := 0) (ms := 0) (Wc := (LCh cy a s9 s9)) (Wn := (LCh cy a S9 s9)) hC (w_litresToReach_ok l G cy kS vS a.aX a.na a.tr a.sn s9.hs a.hi a.sc s9.ep s9.fc a.ob s9.σ j (xs (4 * q + 2)) (xs (4 * q + 3)) (atF (ltF (vB s9.σ j) (hB s9.σ j) (xs (4 * q + 2)) (xs (4 * q + 3))) 1 0 (101 - bx (vB s9.σ j))) a.oA s9.fo hI.1.1 hj hI.1.bd ht hg hwt rfl hR) (vx_cwSW 5 hC.S9.2.2.2.2 gL_law_L_litresToReach rfl rfl rfl (by decide +kernel) ⟨Nat.le_of_ble_eq_true rfl, Nat.le_of_ble_eq_true rfl⟩) [0, 1, 24] rfl (by decide) (SameL.cons SameA.rf (SameL.cons SameA.rf (SameL.cons SameA.one SameL.nil))) (by subst eS; rfl) hP hD hS rfl hl.1 rfl (Nat.le_of_ble_eq_true rfl) ⟨hc0, hs0⟩ dL_law_1295 (fun H locs hP hD hS => ?_)
            refine lv_istore (lv' := [(6, .int 0), (5, .int (nI (4 * q))), (4, .ref a.oD), (3, .ref a.oA), (2, .ref a.am), (1, .ref a.aX), (0, .ref b)]) hx hb dL_law_1298 hl (by decide) rfl (fun ls hl => ?_)
            refine lv_aload_n hx hb dL_law_1300 rfl (lv_at hl 4 rfl) ?_
            refine lv_aload_n hx hb dL_law_1301 rfl (lv_at hl 6 rfl) ?_
            refine lv_iload hx hb dL_law_1302 (lv_at hl 1 rfl) ?_
            refine lv_iconst (v := 1) hx hb dL_law_1304 (by decide) ?_
            refine lv_iadd hx hb dL_law_1305 ?_
            refine m_sld (v := nI j) hx hb hC.hX hC.hbl hC.hbA hS (k := 4 * q + 1) (m_add rfl rfl) (by omega) hC.hL e1 dL_law_1306 ?_
            refine lv_aload_n hx hb dL_law_1307 rfl (lv_at hl 6 rfl) ?_
            refine lv_iload hx hb dL_law_1308 (lv_at hl 1 rfl) ?_
            refine lv_iconst (v := 2) hx hb dL_law_1310 (by decide) ?_
            refine lv_iadd hx hb dL_law_1311 ?_
            refine m_sld (v := xs (4 * q + 2)) hx hb hC.hX hC.hbl hC.hbA hS (k := 4 * q + 2) (m_add rfl rfl) (by omega) hC.hL rfl dL_law_1312 ?_
            refine lv_aload_n hx hb dL_law_1313 rfl (lv_at hl 6 rfl) ?_
            refine lv_iload hx hb dL_law_1314 (lv_at hl 1 rfl) ?_
            refine lv_iconst (v := 3) hx hb dL_law_1316 (by decide) ?_
            refine lv_iadd hx hb dL_law_1317 ?_
            refine m_sld (v := xs (4 * q + 3)) hx hb hC.hX hC.hbl hC.hbA hS (k := 4 * q + 3) (m_add rfl rfl) (by omega) hC.hL rfl dL_law_1318 ?_
            refine lw_m (s1 := S9) (t1 := s9) (Wn := (LCh cy a S9 S9)) hC (c_X8_litresToReach_ok l G cy a.am a.aS a.aBf a.aAs a.aSv a.aPa a.aOu a.aTx a.aCo s9.ct s9.nb s9.LN ((s9.x0).1) s9.CM s9.hs s9.th (bI (s9.x0).2) s9.ep s9.fc s9.σ j (xs (4 * q + 2)) (xs (4 * q + 3)) (atF (ltF (vB s9.σ j) (hB s9.σ j) (xs (4 * q + 2)) (xs (4 * q + 3))) 1 0 (101 - bx (vB s9.σ j))) hI.1.1 hj hI.1.bd ht hg hwt rfl hR) (cwV 3 hC.S9.2.2.2.2 gL_law_X8_litresToReach rfl rfl rfl (by decide +kernel) ⟨Nat.le_of_ble_eq_true rfl, Nat.le_of_ble_eq_true rfl⟩) [15, 16] rfl (by decide) (SameR.cons (SameR.cons SameR.nil)) (by subst eS; rfl) hP hD hS rfl hl.1 rfl (Nat.le_of_ble_eq_true rfl) ⟨hcn, hsn⟩ dL_law_1319 (fun H locs hP hD hS => ?_)
            refine lv_istore (lv' := [(7, .int (atF (ltF (vB s9.σ j) (hB s9.σ j) (xs (4 * q + 2)) (xs (4 * q + 3))) 1 0 (101 - bx (vB s9.σ j)))), (6, .int 0), (5, .int (nI (4 * q))), (4, .ref a.oD), (3, .ref a.oA), (2, .ref a.am), (1, .ref a.aX), (0, .ref b)]) hx hb dL_law_1322 hl (by decide) rfl (fun ls hl => ?_)
            refine lv_aload_n hx hb dL_law_1324 rfl (lv_at hl 5 rfl) ?_
            refine lw_thrown (s1 := S9) (t1 := S9) (k := 0) hC hP (by subst eS; rfl) hl.1 (Nat.le_of_ble_eq_true rfl) ⟨hcn, hsn⟩ dL_law_1325 ?_
            refine lv_iload hx hb dL_law_1328 (lv_at hl 1 rfl) ?_
            refine lv_icmp_eq (tgt := 1335) hx hb dL_law_1330 (by decide) (fun c_1330 => ?_) (fun c_1330 => ?_)
            rotate_left
            · exact absurd c_1330 (by decide)
            refine lv_iload hx hb dL_law_1335 (lv_at hl 1 rfl) ?_
            refine lv_if_ne (tgt := 1352) hx hb dL_law_1337 (by decide) (fun c_1337 => ?_) (fun c_1337 => ?_)
            · exact absurd c_1337 (by decide)
            refine lv_aload_n hx hb dL_law_1340 rfl (lv_at hl 4 rfl) ?_
            refine lv_iconst (v := 0) hx hb dL_law_1341 (by decide) ?_
            refine lw_ldL (s1 := S9) (t1 := S9) (x := (atF (ltF (vB s9.σ j) (hB s9.σ j) (xs (4 * q + 2)) (xs (4 * q + 3))) 1 0 (101 - bx (vB s9.σ j))).toInt64) hC hP (by subst eS; rfl) dL_law_1342 ?_
            refine lv_iload hx hb dL_law_1343 (lv_at hl 0 rfl) ?_
            refine lv_i2l hx hb dL_law_1345 rfl ?_
            refine m_lcmp0 hx hb rfl dL_law_1346 ?_
            refine lv_if_eq (tgt := 1352) hx hb dL_law_1347 (by decide) (fun c_1347 => ?_) (fun c_1347 => ?_)
            rotate_left
            · exact absurd c_1347 (by decide)
            refine lv_goto (tgt := 2890) hx hb dL_law_1352 (by decide) ?_
            refine W.widen (k := cells + 1) (n := slots + 6) (by omega) (by omega) ?_
            exact kk S9 H locs ls (LI.of (LI.mono hI (by omega)) (by subst eS; rfl) (by subst eS; rfl) (by subst eS; rfl) (by subst eS; rfl) (by subst eS; rfl) (by subst eS; rfl) (by subst eS; rfl) (by subst eS; rfl) (by subst eS; rfl) (by subst eS; rfl) (by subst eS; rfl) (by subst eS; rfl) (by subst eS; rfl) (by subst eS; rfl) (by subst eS; rfl)) hP hD hS (lv_sub hl [2, 3, 4, 5, 6, 7] rfl)
        · obtain ⟨S9, eS⟩ : ∃ z : LwS, z = (LwS.mk s9.σ s9.υ s9.ς s9.hs s9.ep s9.fc s9.ml 3 s9.nx s9.ct s9.nb s9.n s9.LN s9.CM s9.ρ s9.x s9.x0 s9.f s9.gk s9.g1 s9.g2 s9.g3 s9.fb s9.fB s9.fA s9.fV s9.fP s9.fO s9.g s9.fo s9.fd) := ⟨_, rfl⟩
          refine lv_aload_n hx hb dL_law_1275 rfl (lv_at hl 4 rfl) ?_
          refine lv_aload_n hx hb dL_law_1276 rfl (lv_at hl 5 rfl) ?_
          refine lv_iload hx hb dL_law_1277 (lv_at hl 0 rfl) ?_
          refine lv_iconst (v := 1) hx hb dL_law_1279 (by decide) ?_
          refine lv_iadd hx hb dL_law_1280 ?_
          refine m_sld (v := nI j) hx hb hC.hX hC.hbl hC.hbA hS (k := 4 * q + 1) (m_add rfl rfl) (by omega) hC.hL e1 dL_law_1281 ?_
          refine lv_aload_n hx hb dL_law_1282 rfl (lv_at hl 5 rfl) ?_
          refine lv_iload hx hb dL_law_1283 (lv_at hl 0 rfl) ?_
          refine lv_iconst (v := 2) hx hb dL_law_1285 (by decide) ?_
          refine lv_iadd hx hb dL_law_1286 ?_
          refine m_sld (v := xs (4 * q + 2)) hx hb hC.hX hC.hbl hC.hbA hS (k := 4 * q + 2) (m_add rfl rfl) (by omega) hC.hL rfl dL_law_1287 ?_
          refine lv_aload_n hx hb dL_law_1288 rfl (lv_at hl 5 rfl) ?_
          refine lv_iload hx hb dL_law_1289 (lv_at hl 0 rfl) ?_
          refine lv_iconst (v := 3) hx hb dL_law_1291 (by decide) ?_
          refine lv_iadd hx hb dL_law_1292 ?_
          refine m_sld (v := xs (4 * q + 3)) hx hb hC.hX hC.hbl hC.hbA hS (k := 4 * q + 3) (m_add rfl rfl) (by omega) hC.hL rfl dL_law_1293 ?_
          refine lv_aload_n hx hb dL_law_1294 rfl (lv_at hl 2 rfl) ?_
          refine lw_w (mc := 1) (ms := 6) (Wc := (LCh cy a s9 s9)) (Wn := (LCh cy a S9 s9)) hC (w_litresToReach_3 l G cy kS vS a.aX a.na a.tr a.sn s9.hs a.hi a.sc s9.ep s9.fc a.ob s9.σ j (xs (4 * q + 2)) (xs (4 * q + 3)) a.oA s9.fo hC.hl9 hI.1.1 hj ht hg hwt) (vx_cwSW 5 hC.S9.2.2.2.2 gL_law_L_litresToReach rfl rfl rfl (by decide +kernel) ⟨Nat.le_of_ble_eq_true rfl, Nat.le_of_ble_eq_true rfl⟩) [0, 1, 24] rfl (by decide) (SameL.cons SameA.rf (SameL.cons SameA.rf (SameL.cons SameA.rf SameL.nil))) (by subst eS; rfl) hP hD hS rfl hl.1 rfl (Nat.le_of_ble_eq_true rfl) ⟨hc1, hs1⟩ dL_law_1295 (fun H locs hP hD hS => ?_)
          refine lv_istore (lv' := [(6, .int 3), (5, .int (nI (4 * q))), (4, .ref a.oD), (3, .ref a.oA), (2, .ref a.am), (1, .ref a.aX), (0, .ref b)]) hx hb dL_law_1298 hl (by decide) rfl (fun ls hl => ?_)
          refine lv_aload_n hx hb dL_law_1300 rfl (lv_at hl 4 rfl) ?_
          refine lv_aload_n hx hb dL_law_1301 rfl (lv_at hl 6 rfl) ?_
          refine lv_iload hx hb dL_law_1302 (lv_at hl 1 rfl) ?_
          refine lv_iconst (v := 1) hx hb dL_law_1304 (by decide) ?_
          refine lv_iadd hx hb dL_law_1305 ?_
          refine m_sld (v := nI j) hx hb hC.hX hC.hbl hC.hbA hS (k := 4 * q + 1) (m_add rfl rfl) (by omega) hC.hL e1 dL_law_1306 ?_
          refine lv_aload_n hx hb dL_law_1307 rfl (lv_at hl 6 rfl) ?_
          refine lv_iload hx hb dL_law_1308 (lv_at hl 1 rfl) ?_
          refine lv_iconst (v := 2) hx hb dL_law_1310 (by decide) ?_
          refine lv_iadd hx hb dL_law_1311 ?_
          refine m_sld (v := xs (4 * q + 2)) hx hb hC.hX hC.hbl hC.hbA hS (k := 4 * q + 2) (m_add rfl rfl) (by omega) hC.hL rfl dL_law_1312 ?_
          refine lv_aload_n hx hb dL_law_1313 rfl (lv_at hl 6 rfl) ?_
          refine lv_iload hx hb dL_law_1314 (lv_at hl 1 rfl) ?_
          refine lv_iconst (v := 3) hx hb dL_law_1316 (by decide) ?_
          refine lv_iadd hx hb dL_law_1317 ?_
          refine m_sld (v := xs (4 * q + 3)) hx hb hC.hX hC.hbl hC.hbA hS (k := 4 * q + 3) (m_add rfl rfl) (by omega) hC.hL rfl dL_law_1318 ?_
          refine lw_m (s1 := S9) (t1 := s9) (Wn := (LCh cy a S9 S9)) hC (c_X8_litresToReach_no5 l G cy a.am a.aS a.aBf a.aAs a.aSv a.aPa a.aOu a.aTx a.aCo s9.ct s9.nb s9.LN ((s9.x0).1) s9.CM s9.hs s9.th (bI (s9.x0).2) s9.ep s9.fc s9.σ j (xs (4 * q + 2)) (xs (4 * q + 3)) hI.1.1 hj ht hg hwt) (cwV 3 hC.S9.2.2.2.2 gL_law_X8_litresToReach rfl rfl rfl (by decide +kernel) ⟨Nat.le_of_ble_eq_true rfl, Nat.le_of_ble_eq_true rfl⟩) [15, 16] rfl (by decide) (SameR.cons (SameR.cons SameR.nil)) (by subst eS; rfl) hP hD hS rfl hl.1 rfl (Nat.le_of_ble_eq_true rfl) ⟨hc1, hs1⟩ dL_law_1319 (fun H locs hP hD hS => ?_)
          refine lv_istore (lv' := [(7, .int 0), (6, .int 3), (5, .int (nI (4 * q))), (4, .ref a.oD), (3, .ref a.oA), (2, .ref a.am), (1, .ref a.aX), (0, .ref b)]) hx hb dL_law_1322 hl (by decide) rfl (fun ls hl => ?_)
          refine lv_aload_n hx hb dL_law_1324 rfl (lv_at hl 5 rfl) ?_
          refine lw_thrown (s1 := S9) (t1 := S9) (k := 3) hC hP (by subst eS; rfl) hl.1 (Nat.le_of_ble_eq_true rfl) ⟨hc1, hs1⟩ dL_law_1325 ?_
          refine lv_iload hx hb dL_law_1328 (lv_at hl 1 rfl) ?_
          refine lv_icmp_eq (tgt := 1335) hx hb dL_law_1330 (by decide) (fun c_1330 => ?_) (fun c_1330 => ?_)
          rotate_left
          · exact absurd c_1330 (by decide)
          refine lv_iload hx hb dL_law_1335 (lv_at hl 1 rfl) ?_
          refine lv_if_ne (tgt := 1352) hx hb dL_law_1337 (by decide) (fun c_1337 => ?_) (fun c_1337 => ?_)
          rotate_left
          · exact absurd c_1337 (by decide)
          refine lv_goto (tgt := 2890) hx hb dL_law_1352 (by decide) ?_
          exact kk S9 H locs ls (LI.of (LI.mono hI (by omega)) (by subst eS; rfl) (by subst eS; rfl) (by subst eS; rfl) (by subst eS; rfl) (by subst eS; rfl) (by subst eS; rfl) (by subst eS; rfl) (by subst eS; rfl) (by subst eS; rfl) (by subst eS; rfl) (by subst eS; rfl) (by subst eS; rfl) (by subst eS; rfl) (by subst eS; rfl) (by subst eS; rfl)) hP hD hS (lv_sub hl [2, 3, 4, 5, 6, 7] rfl)
      · obtain ⟨S9, eS⟩ : ∃ z : LwS, z = (LwS.mk s9.σ s9.υ s9.ς s9.hs s9.ep s9.fc s9.ml 2 s9.nx s9.ct s9.nb s9.n s9.LN s9.CM s9.ρ s9.x s9.x0 s9.f s9.gk s9.g1 s9.g2 s9.g3 s9.fb s9.fB s9.fA s9.fV s9.fP s9.fO s9.g s9.fo s9.fd) := ⟨_, rfl⟩
        refine lv_aload_n hx hb dL_law_1275 rfl (lv_at hl 4 rfl) ?_
        refine lv_aload_n hx hb dL_law_1276 rfl (lv_at hl 5 rfl) ?_
        refine lv_iload hx hb dL_law_1277 (lv_at hl 0 rfl) ?_
        refine lv_iconst (v := 1) hx hb dL_law_1279 (by decide) ?_
        refine lv_iadd hx hb dL_law_1280 ?_
        refine m_sld (v := nI j) hx hb hC.hX hC.hbl hC.hbA hS (k := 4 * q + 1) (m_add rfl rfl) (by omega) hC.hL e1 dL_law_1281 ?_
        refine lv_aload_n hx hb dL_law_1282 rfl (lv_at hl 5 rfl) ?_
        refine lv_iload hx hb dL_law_1283 (lv_at hl 0 rfl) ?_
        refine lv_iconst (v := 2) hx hb dL_law_1285 (by decide) ?_
        refine lv_iadd hx hb dL_law_1286 ?_
        refine m_sld (v := xs (4 * q + 2)) hx hb hC.hX hC.hbl hC.hbA hS (k := 4 * q + 2) (m_add rfl rfl) (by omega) hC.hL rfl dL_law_1287 ?_
        refine lv_aload_n hx hb dL_law_1288 rfl (lv_at hl 5 rfl) ?_
        refine lv_iload hx hb dL_law_1289 (lv_at hl 0 rfl) ?_
        refine lv_iconst (v := 3) hx hb dL_law_1291 (by decide) ?_
        refine lv_iadd hx hb dL_law_1292 ?_
        refine m_sld (v := xs (4 * q + 3)) hx hb hC.hX hC.hbl hC.hbA hS (k := 4 * q + 3) (m_add rfl rfl) (by omega) hC.hL rfl dL_law_1293 ?_
        refine lv_aload_n hx hb dL_law_1294 rfl (lv_at hl 2 rfl) ?_
        refine lw_w (mc := 1) (ms := 6) (Wc := (LCh cy a s9 s9)) (Wn := (LCh cy a S9 s9)) hC (w_litresToReach_2 l G cy kS vS a.aX a.na a.tr a.sn s9.hs a.hi a.sc s9.ep s9.fc a.ob s9.σ j (xs (4 * q + 2)) (xs (4 * q + 3)) a.oA s9.fo hC.hl9 hI.1.1 hj (fun z => hg z.2)) (vx_cwSW 5 hC.S9.2.2.2.2 gL_law_L_litresToReach rfl rfl rfl (by decide +kernel) ⟨Nat.le_of_ble_eq_true rfl, Nat.le_of_ble_eq_true rfl⟩) [0, 1, 24] rfl (by decide) (SameL.cons SameA.rf (SameL.cons SameA.rf (SameL.cons SameA.rf SameL.nil))) (by subst eS; rfl) hP hD hS rfl hl.1 rfl (Nat.le_of_ble_eq_true rfl) ⟨hc1, hs1⟩ dL_law_1295 (fun H locs hP hD hS => ?_)
        refine lv_istore (lv' := [(6, .int 2), (5, .int (nI (4 * q))), (4, .ref a.oD), (3, .ref a.oA), (2, .ref a.am), (1, .ref a.aX), (0, .ref b)]) hx hb dL_law_1298 hl (by decide) rfl (fun ls hl => ?_)
        refine lv_aload_n hx hb dL_law_1300 rfl (lv_at hl 4 rfl) ?_
        refine lv_aload_n hx hb dL_law_1301 rfl (lv_at hl 6 rfl) ?_
        refine lv_iload hx hb dL_law_1302 (lv_at hl 1 rfl) ?_
        refine lv_iconst (v := 1) hx hb dL_law_1304 (by decide) ?_
        refine lv_iadd hx hb dL_law_1305 ?_
        refine m_sld (v := nI j) hx hb hC.hX hC.hbl hC.hbA hS (k := 4 * q + 1) (m_add rfl rfl) (by omega) hC.hL e1 dL_law_1306 ?_
        refine lv_aload_n hx hb dL_law_1307 rfl (lv_at hl 6 rfl) ?_
        refine lv_iload hx hb dL_law_1308 (lv_at hl 1 rfl) ?_
        refine lv_iconst (v := 2) hx hb dL_law_1310 (by decide) ?_
        refine lv_iadd hx hb dL_law_1311 ?_
        refine m_sld (v := xs (4 * q + 2)) hx hb hC.hX hC.hbl hC.hbA hS (k := 4 * q + 2) (m_add rfl rfl) (by omega) hC.hL rfl dL_law_1312 ?_
        refine lv_aload_n hx hb dL_law_1313 rfl (lv_at hl 6 rfl) ?_
        refine lv_iload hx hb dL_law_1314 (lv_at hl 1 rfl) ?_
        refine lv_iconst (v := 3) hx hb dL_law_1316 (by decide) ?_
        refine lv_iadd hx hb dL_law_1317 ?_
        refine m_sld (v := xs (4 * q + 3)) hx hb hC.hX hC.hbl hC.hbA hS (k := 4 * q + 3) (m_add rfl rfl) (by omega) hC.hL rfl dL_law_1318 ?_
        refine lw_m (s1 := S9) (t1 := s9) (Wn := (LCh cy a S9 S9)) hC (c_X8_litresToReach_no3 l G cy a.am a.aS a.aBf a.aAs a.aSv a.aPa a.aOu a.aTx a.aCo s9.ct s9.nb s9.LN ((s9.x0).1) s9.CM s9.hs s9.th (bI (s9.x0).2) s9.ep s9.fc s9.σ j (xs (4 * q + 2)) (xs (4 * q + 3)) hI.1.1 hj ht hg) (cwV 3 hC.S9.2.2.2.2 gL_law_X8_litresToReach rfl rfl rfl (by decide +kernel) ⟨Nat.le_of_ble_eq_true rfl, Nat.le_of_ble_eq_true rfl⟩) [15, 16] rfl (by decide) (SameR.cons (SameR.cons SameR.nil)) (by subst eS; rfl) hP hD hS rfl hl.1 rfl (Nat.le_of_ble_eq_true rfl) ⟨hc1, hs1⟩ dL_law_1319 (fun H locs hP hD hS => ?_)
        refine lv_istore (lv' := [(7, .int 0), (6, .int 2), (5, .int (nI (4 * q))), (4, .ref a.oD), (3, .ref a.oA), (2, .ref a.am), (1, .ref a.aX), (0, .ref b)]) hx hb dL_law_1322 hl (by decide) rfl (fun ls hl => ?_)
        refine lv_aload_n hx hb dL_law_1324 rfl (lv_at hl 5 rfl) ?_
        refine lw_thrown (s1 := S9) (t1 := S9) (k := 2) hC hP (by subst eS; rfl) hl.1 (Nat.le_of_ble_eq_true rfl) ⟨hc1, hs1⟩ dL_law_1325 ?_
        refine lv_iload hx hb dL_law_1328 (lv_at hl 1 rfl) ?_
        refine lv_icmp_eq (tgt := 1335) hx hb dL_law_1330 (by decide) (fun c_1330 => ?_) (fun c_1330 => ?_)
        rotate_left
        · exact absurd c_1330 (by decide)
        refine lv_iload hx hb dL_law_1335 (lv_at hl 1 rfl) ?_
        refine lv_if_ne (tgt := 1352) hx hb dL_law_1337 (by decide) (fun c_1337 => ?_) (fun c_1337 => ?_)
        rotate_left
        · exact absurd c_1337 (by decide)
        refine lv_goto (tgt := 2890) hx hb dL_law_1352 (by decide) ?_
        exact kk S9 H locs ls (LI.of (LI.mono hI (by omega)) (by subst eS; rfl) (by subst eS; rfl) (by subst eS; rfl) (by subst eS; rfl) (by subst eS; rfl) (by subst eS; rfl) (by subst eS; rfl) (by subst eS; rfl) (by subst eS; rfl) (by subst eS; rfl) (by subst eS; rfl) (by subst eS; rfl) (by subst eS; rfl) (by subst eS; rfl) (by subst eS; rfl)) hP hD hS (lv_sub hl [2, 3, 4, 5, 6, 7] rfl)
    · obtain ⟨S9, eS⟩ : ∃ z : LwS, z = (LwS.mk s9.σ s9.υ s9.ς s9.hs s9.ep s9.fc s9.ml 2 s9.nx s9.ct s9.nb s9.n s9.LN s9.CM s9.ρ s9.x s9.x0 s9.f s9.gk s9.g1 s9.g2 s9.g3 s9.fb s9.fB s9.fA s9.fV s9.fP s9.fO s9.g s9.fo s9.fd) := ⟨_, rfl⟩
      refine lv_aload_n hx hb dL_law_1275 rfl (lv_at hl 4 rfl) ?_
      refine lv_aload_n hx hb dL_law_1276 rfl (lv_at hl 5 rfl) ?_
      refine lv_iload hx hb dL_law_1277 (lv_at hl 0 rfl) ?_
      refine lv_iconst (v := 1) hx hb dL_law_1279 (by decide) ?_
      refine lv_iadd hx hb dL_law_1280 ?_
      refine m_sld (v := nI j) hx hb hC.hX hC.hbl hC.hbA hS (k := 4 * q + 1) (m_add rfl rfl) (by omega) hC.hL e1 dL_law_1281 ?_
      refine lv_aload_n hx hb dL_law_1282 rfl (lv_at hl 5 rfl) ?_
      refine lv_iload hx hb dL_law_1283 (lv_at hl 0 rfl) ?_
      refine lv_iconst (v := 2) hx hb dL_law_1285 (by decide) ?_
      refine lv_iadd hx hb dL_law_1286 ?_
      refine m_sld (v := xs (4 * q + 2)) hx hb hC.hX hC.hbl hC.hbA hS (k := 4 * q + 2) (m_add rfl rfl) (by omega) hC.hL rfl dL_law_1287 ?_
      refine lv_aload_n hx hb dL_law_1288 rfl (lv_at hl 5 rfl) ?_
      refine lv_iload hx hb dL_law_1289 (lv_at hl 0 rfl) ?_
      refine lv_iconst (v := 3) hx hb dL_law_1291 (by decide) ?_
      refine lv_iadd hx hb dL_law_1292 ?_
      refine m_sld (v := xs (4 * q + 3)) hx hb hC.hX hC.hbl hC.hbA hS (k := 4 * q + 3) (m_add rfl rfl) (by omega) hC.hL rfl dL_law_1293 ?_
      refine lv_aload_n hx hb dL_law_1294 rfl (lv_at hl 2 rfl) ?_
      refine lw_w (mc := 1) (ms := 6) (Wc := (LCh cy a s9 s9)) (Wn := (LCh cy a S9 s9)) hC (w_litresToReach_2 l G cy kS vS a.aX a.na a.tr a.sn s9.hs a.hi a.sc s9.ep s9.fc a.ob s9.σ j (xs (4 * q + 2)) (xs (4 * q + 3)) a.oA s9.fo hC.hl9 hI.1.1 hj (fun z => ht z.1)) (vx_cwSW 5 hC.S9.2.2.2.2 gL_law_L_litresToReach rfl rfl rfl (by decide +kernel) ⟨Nat.le_of_ble_eq_true rfl, Nat.le_of_ble_eq_true rfl⟩) [0, 1, 24] rfl (by decide) (SameL.cons SameA.rf (SameL.cons SameA.rf (SameL.cons SameA.rf SameL.nil))) (by subst eS; rfl) hP hD hS rfl hl.1 rfl (Nat.le_of_ble_eq_true rfl) ⟨hc1, hs1⟩ dL_law_1295 (fun H locs hP hD hS => ?_)
      refine lv_istore (lv' := [(6, .int 2), (5, .int (nI (4 * q))), (4, .ref a.oD), (3, .ref a.oA), (2, .ref a.am), (1, .ref a.aX), (0, .ref b)]) hx hb dL_law_1298 hl (by decide) rfl (fun ls hl => ?_)
      refine lv_aload_n hx hb dL_law_1300 rfl (lv_at hl 4 rfl) ?_
      refine lv_aload_n hx hb dL_law_1301 rfl (lv_at hl 6 rfl) ?_
      refine lv_iload hx hb dL_law_1302 (lv_at hl 1 rfl) ?_
      refine lv_iconst (v := 1) hx hb dL_law_1304 (by decide) ?_
      refine lv_iadd hx hb dL_law_1305 ?_
      refine m_sld (v := nI j) hx hb hC.hX hC.hbl hC.hbA hS (k := 4 * q + 1) (m_add rfl rfl) (by omega) hC.hL e1 dL_law_1306 ?_
      refine lv_aload_n hx hb dL_law_1307 rfl (lv_at hl 6 rfl) ?_
      refine lv_iload hx hb dL_law_1308 (lv_at hl 1 rfl) ?_
      refine lv_iconst (v := 2) hx hb dL_law_1310 (by decide) ?_
      refine lv_iadd hx hb dL_law_1311 ?_
      refine m_sld (v := xs (4 * q + 2)) hx hb hC.hX hC.hbl hC.hbA hS (k := 4 * q + 2) (m_add rfl rfl) (by omega) hC.hL rfl dL_law_1312 ?_
      refine lv_aload_n hx hb dL_law_1313 rfl (lv_at hl 6 rfl) ?_
      refine lv_iload hx hb dL_law_1314 (lv_at hl 1 rfl) ?_
      refine lv_iconst (v := 3) hx hb dL_law_1316 (by decide) ?_
      refine lv_iadd hx hb dL_law_1317 ?_
      refine m_sld (v := xs (4 * q + 3)) hx hb hC.hX hC.hbl hC.hbA hS (k := 4 * q + 3) (m_add rfl rfl) (by omega) hC.hL rfl dL_law_1318 ?_
      refine lw_m (s1 := S9) (t1 := s9) (Wn := (LCh cy a S9 S9)) hC (c_X8_litresToReach_no2 l G cy a.am a.aS a.aBf a.aAs a.aSv a.aPa a.aOu a.aTx a.aCo s9.ct s9.nb s9.LN ((s9.x0).1) s9.CM s9.hs s9.th (bI (s9.x0).2) s9.ep s9.fc s9.σ j (xs (4 * q + 2)) (xs (4 * q + 3)) hI.1.1 hj ht) (cwV 3 hC.S9.2.2.2.2 gL_law_X8_litresToReach rfl rfl rfl (by decide +kernel) ⟨Nat.le_of_ble_eq_true rfl, Nat.le_of_ble_eq_true rfl⟩) [15, 16] rfl (by decide) (SameR.cons (SameR.cons SameR.nil)) (by subst eS; rfl) hP hD hS rfl hl.1 rfl (Nat.le_of_ble_eq_true rfl) ⟨hc1, hs1⟩ dL_law_1319 (fun H locs hP hD hS => ?_)
      refine lv_istore (lv' := [(7, .int 0), (6, .int 2), (5, .int (nI (4 * q))), (4, .ref a.oD), (3, .ref a.oA), (2, .ref a.am), (1, .ref a.aX), (0, .ref b)]) hx hb dL_law_1322 hl (by decide) rfl (fun ls hl => ?_)
      refine lv_aload_n hx hb dL_law_1324 rfl (lv_at hl 5 rfl) ?_
      refine lw_thrown (s1 := S9) (t1 := S9) (k := 2) hC hP (by subst eS; rfl) hl.1 (Nat.le_of_ble_eq_true rfl) ⟨hc1, hs1⟩ dL_law_1325 ?_
      refine lv_iload hx hb dL_law_1328 (lv_at hl 1 rfl) ?_
      refine lv_icmp_eq (tgt := 1335) hx hb dL_law_1330 (by decide) (fun c_1330 => ?_) (fun c_1330 => ?_)
      rotate_left
      · exact absurd c_1330 (by decide)
      refine lv_iload hx hb dL_law_1335 (lv_at hl 1 rfl) ?_
      refine lv_if_ne (tgt := 1352) hx hb dL_law_1337 (by decide) (fun c_1337 => ?_) (fun c_1337 => ?_)
      rotate_left
      · exact absurd c_1337 (by decide)
      refine lv_goto (tgt := 2890) hx hb dL_law_1352 (by decide) ?_
      exact kk S9 H locs ls (LI.of (LI.mono hI (by omega)) (by subst eS; rfl) (by subst eS; rfl) (by subst eS; rfl) (by subst eS; rfl) (by subst eS; rfl) (by subst eS; rfl) (by subst eS; rfl) (by subst eS; rfl) (by subst eS; rfl) (by subst eS; rfl) (by subst eS; rfl) (by subst eS; rfl) (by subst eS; rfl) (by subst eS; rfl) (by subst eS; rfl)) hP hD hS (lv_sub hl [2, 3, 4, 5, 6, 7] rfl)
  · obtain ⟨S9, eS⟩ : ∃ z : LwS, z = (LwS.mk s9.σ s9.υ s9.ς s9.hs s9.ep s9.fc s9.ml 1 s9.nx s9.ct s9.nb s9.n s9.LN s9.CM s9.ρ s9.x s9.x0 s9.f s9.gk s9.g1 s9.g2 s9.g3 s9.fb s9.fB s9.fA s9.fV s9.fP s9.fO s9.g s9.fo s9.fd) := ⟨_, rfl⟩
    refine lv_aload_n hx hb dL_law_1275 rfl (lv_at hl 4 rfl) ?_
    refine lv_aload_n hx hb dL_law_1276 rfl (lv_at hl 5 rfl) ?_
    refine lv_iload hx hb dL_law_1277 (lv_at hl 0 rfl) ?_
    refine lv_iconst (v := 1) hx hb dL_law_1279 (by decide) ?_
    refine lv_iadd hx hb dL_law_1280 ?_
    refine m_sld (v := xs (4 * q + 1)) hx hb hC.hX hC.hbl hC.hbA hS (k := 4 * q + 1) (m_add rfl rfl) (by omega) hC.hL rfl dL_law_1281 ?_
    refine lv_aload_n hx hb dL_law_1282 rfl (lv_at hl 5 rfl) ?_
    refine lv_iload hx hb dL_law_1283 (lv_at hl 0 rfl) ?_
    refine lv_iconst (v := 2) hx hb dL_law_1285 (by decide) ?_
    refine lv_iadd hx hb dL_law_1286 ?_
    refine m_sld (v := xs (4 * q + 2)) hx hb hC.hX hC.hbl hC.hbA hS (k := 4 * q + 2) (m_add rfl rfl) (by omega) hC.hL rfl dL_law_1287 ?_
    refine lv_aload_n hx hb dL_law_1288 rfl (lv_at hl 5 rfl) ?_
    refine lv_iload hx hb dL_law_1289 (lv_at hl 0 rfl) ?_
    refine lv_iconst (v := 3) hx hb dL_law_1291 (by decide) ?_
    refine lv_iadd hx hb dL_law_1292 ?_
    refine m_sld (v := xs (4 * q + 3)) hx hb hC.hX hC.hbl hC.hbA hS (k := 4 * q + 3) (m_add rfl rfl) (by omega) hC.hL rfl dL_law_1293 ?_
    refine lv_aload_n hx hb dL_law_1294 rfl (lv_at hl 2 rfl) ?_
    refine lw_w (mc := 1) (ms := 6) (Wc := (LCh cy a s9 s9)) (Wn := (LCh cy a S9 s9)) hC (w_litresToReach_1 l G cy kS vS a.aX a.na a.tr a.sn s9.hs a.hi a.sc s9.ep s9.fc a.ob s9.σ (xs (4 * q + 1)) (xs (4 * q + 2)) (xs (4 * q + 3)) a.oA s9.fo hC.hl9 hI.1.1 hF) (vx_cwSW 5 hC.S9.2.2.2.2 gL_law_L_litresToReach rfl rfl rfl (by decide +kernel) ⟨Nat.le_of_ble_eq_true rfl, Nat.le_of_ble_eq_true rfl⟩) [0, 1, 24] rfl (by decide) (SameL.cons SameA.rf (SameL.cons SameA.rf (SameL.cons SameA.rf SameL.nil))) (by subst eS; rfl) hP hD hS rfl hl.1 rfl (Nat.le_of_ble_eq_true rfl) ⟨hc1, hs1⟩ dL_law_1295 (fun H locs hP hD hS => ?_)
    refine lv_istore (lv' := [(6, .int 1), (5, .int (nI (4 * q))), (4, .ref a.oD), (3, .ref a.oA), (2, .ref a.am), (1, .ref a.aX), (0, .ref b)]) hx hb dL_law_1298 hl (by decide) rfl (fun ls hl => ?_)
    refine lv_aload_n hx hb dL_law_1300 rfl (lv_at hl 4 rfl) ?_
    refine lv_aload_n hx hb dL_law_1301 rfl (lv_at hl 6 rfl) ?_
    refine lv_iload hx hb dL_law_1302 (lv_at hl 1 rfl) ?_
    refine lv_iconst (v := 1) hx hb dL_law_1304 (by decide) ?_
    refine lv_iadd hx hb dL_law_1305 ?_
    refine m_sld (v := xs (4 * q + 1)) hx hb hC.hX hC.hbl hC.hbA hS (k := 4 * q + 1) (m_add rfl rfl) (by omega) hC.hL rfl dL_law_1306 ?_
    refine lv_aload_n hx hb dL_law_1307 rfl (lv_at hl 6 rfl) ?_
    refine lv_iload hx hb dL_law_1308 (lv_at hl 1 rfl) ?_
    refine lv_iconst (v := 2) hx hb dL_law_1310 (by decide) ?_
    refine lv_iadd hx hb dL_law_1311 ?_
    refine m_sld (v := xs (4 * q + 2)) hx hb hC.hX hC.hbl hC.hbA hS (k := 4 * q + 2) (m_add rfl rfl) (by omega) hC.hL rfl dL_law_1312 ?_
    refine lv_aload_n hx hb dL_law_1313 rfl (lv_at hl 6 rfl) ?_
    refine lv_iload hx hb dL_law_1314 (lv_at hl 1 rfl) ?_
    refine lv_iconst (v := 3) hx hb dL_law_1316 (by decide) ?_
    refine lv_iadd hx hb dL_law_1317 ?_
    refine m_sld (v := xs (4 * q + 3)) hx hb hC.hX hC.hbl hC.hbA hS (k := 4 * q + 3) (m_add rfl rfl) (by omega) hC.hL rfl dL_law_1318 ?_
    refine lw_m (s1 := S9) (t1 := s9) (Wn := (LCh cy a S9 S9)) hC (c_X8_litresToReach_no1 l G cy a.am a.aS a.aBf a.aAs a.aSv a.aPa a.aOu a.aTx a.aCo s9.ct s9.nb s9.LN ((s9.x0).1) s9.CM s9.hs s9.th (bI (s9.x0).2) s9.ep s9.fc s9.σ (xs (4 * q + 1)) (xs (4 * q + 2)) (xs (4 * q + 3)) hI.1.1 hF) (cwV 3 hC.S9.2.2.2.2 gL_law_X8_litresToReach rfl rfl rfl (by decide +kernel) ⟨Nat.le_of_ble_eq_true rfl, Nat.le_of_ble_eq_true rfl⟩) [15, 16] rfl (by decide) (SameR.cons (SameR.cons SameR.nil)) (by subst eS; rfl) hP hD hS rfl hl.1 rfl (Nat.le_of_ble_eq_true rfl) ⟨hc1, hs1⟩ dL_law_1319 (fun H locs hP hD hS => ?_)
    refine lv_istore (lv' := [(7, .int 0), (6, .int 1), (5, .int (nI (4 * q))), (4, .ref a.oD), (3, .ref a.oA), (2, .ref a.am), (1, .ref a.aX), (0, .ref b)]) hx hb dL_law_1322 hl (by decide) rfl (fun ls hl => ?_)
    refine lv_aload_n hx hb dL_law_1324 rfl (lv_at hl 5 rfl) ?_
    refine lw_thrown (s1 := S9) (t1 := S9) (k := 1) hC hP (by subst eS; rfl) hl.1 (Nat.le_of_ble_eq_true rfl) ⟨hc1, hs1⟩ dL_law_1325 ?_
    refine lv_iload hx hb dL_law_1328 (lv_at hl 1 rfl) ?_
    refine lv_icmp_eq (tgt := 1335) hx hb dL_law_1330 (by decide) (fun c_1330 => ?_) (fun c_1330 => ?_)
    rotate_left
    · exact absurd c_1330 (by decide)
    refine lv_iload hx hb dL_law_1335 (lv_at hl 1 rfl) ?_
    refine lv_if_ne (tgt := 1352) hx hb dL_law_1337 (by decide) (fun c_1337 => ?_) (fun c_1337 => ?_)
    rotate_left
    · exact absurd c_1337 (by decide)
    refine lv_goto (tgt := 2890) hx hb dL_law_1352 (by decide) ?_
    exact kk S9 H locs ls (LI.of (LI.mono hI (by omega)) (by subst eS; rfl) (by subst eS; rfl) (by subst eS; rfl) (by subst eS; rfl) (by subst eS; rfl) (by subst eS; rfl) (by subst eS; rfl) (by subst eS; rfl) (by subst eS; rfl) (by subst eS; rfl) (by subst eS; rfl) (by subst eS; rfl) (by subst eS; rfl) (by subst eS; rfl) (by subst eS; rfl)) hP hD hS (lv_sub hl [2, 3, 4, 5, 6, 7] rfl)

set_option maxRecDepth 100000 in
set_option maxHeartbeats 4000000 in
theorem case_17 {p : Program} {l : Launch} {e : Env} {s : State} {m : MethodId} {below : List Frame} {meth : Method} {cq : Code} {G : va_G} {cy : Nat → ClassId} {kS vS : Nat → Nat} {A : Nat → Prop} {a : LA} {b L q : Nat} {xs : Nat → Int32} {Q : State → Prop} {n0 cells slots : Nat} (hC : LC l p s m meth cq G cy kS vS A b L xs) (hq : 4 * q + 4 ≤ L) (hn0 : n0 < 1000000) (hc1 : cells + 1 ≤ room_1.cells) (hs1 : slots + 6 ≤ room_1.slots) (kk : LGo p l e s m below meth cq G cy A a b q Q (n0 + 300) (cells + 1) (slots + 6) 2890) : LGo p l e s m below meth cq G cy A a b q Q n0 cells slots 1355 := by
  intro s9 H locs ls hI hP hD hS hl
  obtain ⟨hx, hb, hml, hown, hts⟩ := id hC.S9
  have hL9 := hC.hL
  have hc0 : cells + 0 ≤ room_1.cells := Nat.le_of_succ_le hc1
  have hcn : cells ≤ room_1.cells := Nat.le_of_succ_le hc1
  have hs0 : slots + 0 ≤ room_1.slots := Nat.le_trans (Nat.le_add_right slots 6) hs1
  have hsn : slots ≤ room_1.slots := Nat.le_trans (Nat.le_add_right slots 6) hs1
  have ho := hI.1.1
  have hN0 := ho.1
  have hM0 := ho.2.1
  have hE0 := ho.2.2.1
  have hnx := hI.2.2.2.2.1
  have hct := hI.2.2.2.2.2.1
  by_cases hF : inI (xs (4 * q + 1)) (nI (nB s9.σ)) = true
  · obtain ⟨j, hj, e1⟩ := ix_of (by omega) hF
    by_cases ht : tapB (xs (4 * q + 2)) = true
    · by_cases hg : inR (xs (4 * q + 3)) 0 99 = true
      · by_cases hwt : wet (vB s9.σ) j = true
        · have hfe : frmF (vB s9.σ j) (hB s9.σ j) (xs (4 * q + 2)) (xs (4 * q + 3)) = atF (ltF (vB s9.σ j) (hB s9.σ j) (xs (4 * q + 2)) (xs (4 * q + 3))) 1 0 (101 - bx (vB s9.σ j)) := frm_eq hI.1.bd (by omega) hwt ht hg
          by_cases hR : atF (ltF (vB s9.σ j) (hB s9.σ j) (xs (4 * q + 2)) (xs (4 * q + 3))) 1 0 (101 - bx (vB s9.σ j)) = -1
          · obtain ⟨S9, eS⟩ : ∃ z : LwS, z = (LwS.mk s9.σ s9.υ s9.ς s9.hs s9.ep s9.fc s9.ml 4 s9.nx s9.ct s9.nb s9.n s9.LN s9.CM s9.ρ s9.x s9.x0 s9.f s9.gk s9.g1 s9.g2 s9.g3 s9.fb s9.fB s9.fA s9.fV s9.fP s9.fO s9.g s9.fo s9.fd) := ⟨_, rfl⟩
            refine lv_aload_n hx hb dL_law_1355 rfl (lv_at hl 4 rfl) ?_
            refine lv_aload_n hx hb dL_law_1356 rfl (lv_at hl 5 rfl) ?_
            refine lv_iload hx hb dL_law_1357 (lv_at hl 0 rfl) ?_
            refine lv_iconst (v := 1) hx hb dL_law_1359 (by decide) ?_
            refine lv_iadd hx hb dL_law_1360 ?_
            refine m_sld (v := nI j) hx hb hC.hX hC.hbl hC.hbA hS (k := 4 * q + 1) (m_add rfl rfl) (by omega) hC.hL e1 dL_law_1361 ?_
            refine lv_aload_n hx hb dL_law_1362 rfl (lv_at hl 5 rfl) ?_
            refine lv_iload hx hb dL_law_1363 (lv_at hl 0 rfl) ?_
            refine lv_iconst (v := 2) hx hb dL_law_1365 (by decide) ?_
            refine lv_iadd hx hb dL_law_1366 ?_
            refine m_sld (v := xs (4 * q + 2)) hx hb hC.hX hC.hbl hC.hbA hS (k := 4 * q + 2) (m_add rfl rfl) (by omega) hC.hL rfl dL_law_1367 ?_
            refine lv_aload_n hx hb dL_law_1368 rfl (lv_at hl 5 rfl) ?_
            refine lv_iload hx hb dL_law_1369 (lv_at hl 0 rfl) ?_
            refine lv_iconst (v := 3) hx hb dL_law_1371 (by decide) ?_
            refine lv_iadd hx hb dL_law_1372 ?_
            refine m_sld (v := xs (4 * q + 3)) hx hb hC.hX hC.hbl hC.hbA hS (k := 4 * q + 3) (m_add rfl rfl) (by omega) hC.hL rfl dL_law_1373 ?_
            refine lv_aload_n hx hb dL_law_1374 rfl (lv_at hl 2 rfl) ?_
            refine lw_w (mc := 1) (ms := 6) (Wc := (LCh cy a s9 s9)) (Wn := (LCh cy a S9 s9)) hC (w_litresToReachByFormula_4 l G cy kS vS a.aX a.na a.tr a.sn s9.hs a.hi a.sc s9.ep s9.fc a.ob s9.σ j (xs (4 * q + 2)) (xs (4 * q + 3)) a.oA s9.fo hC.hl9 hI.1.1 hj hI.1.bd ht hg hwt (hfe.trans hR)) (vx_cwSW 5 hC.S9.2.2.2.2 gL_law_L_litresToReachByFormula rfl rfl rfl (by decide +kernel) ⟨Nat.le_of_ble_eq_true rfl, Nat.le_of_ble_eq_true rfl⟩) [0, 1, 24] rfl (by decide) (SameL.cons SameA.rf (SameL.cons SameA.rf (SameL.cons SameA.rf SameL.nil))) (by subst eS; rfl) hP hD hS rfl hl.1 rfl (Nat.le_of_ble_eq_true rfl) ⟨hc1, hs1⟩ dL_law_1375 (fun H locs hP hD hS => ?_)
            refine lv_istore (lv' := [(6, .int 4), (5, .int (nI (4 * q))), (4, .ref a.oD), (3, .ref a.oA), (2, .ref a.am), (1, .ref a.aX), (0, .ref b)]) hx hb dL_law_1378 hl (by decide) rfl (fun ls hl => ?_)
            refine lv_aload_n hx hb dL_law_1380 rfl (lv_at hl 4 rfl) ?_
            refine lv_aload_n hx hb dL_law_1381 rfl (lv_at hl 6 rfl) ?_
            refine lv_iload hx hb dL_law_1382 (lv_at hl 1 rfl) ?_
            refine lv_iconst (v := 1) hx hb dL_law_1384 (by decide) ?_
            refine lv_iadd hx hb dL_law_1385 ?_
            refine m_sld (v := nI j) hx hb hC.hX hC.hbl hC.hbA hS (k := 4 * q + 1) (m_add rfl rfl) (by omega) hC.hL e1 dL_law_1386 ?_
            refine lv_aload_n hx hb dL_law_1387 rfl (lv_at hl 6 rfl) ?_
            refine lv_iload hx hb dL_law_1388 (lv_at hl 1 rfl) ?_
            refine lv_iconst (v := 2) hx hb dL_law_1390 (by decide) ?_
            refine lv_iadd hx hb dL_law_1391 ?_
            refine m_sld (v := xs (4 * q + 2)) hx hb hC.hX hC.hbl hC.hbA hS (k := 4 * q + 2) (m_add rfl rfl) (by omega) hC.hL rfl dL_law_1392 ?_
            refine lv_aload_n hx hb dL_law_1393 rfl (lv_at hl 6 rfl) ?_
            refine lv_iload hx hb dL_law_1394 (lv_at hl 1 rfl) ?_
            refine lv_iconst (v := 3) hx hb dL_law_1396 (by decide) ?_
            refine lv_iadd hx hb dL_law_1397 ?_
            refine m_sld (v := xs (4 * q + 3)) hx hb hC.hX hC.hbl hC.hbA hS (k := 4 * q + 3) (m_add rfl rfl) (by omega) hC.hL rfl dL_law_1398 ?_
            refine lw_m (s1 := S9) (t1 := s9) (Wn := (LCh cy a S9 S9)) hC (c_X8_litresToReachByFormula_no4 l G cy a.am a.aS a.aBf a.aAs a.aSv a.aPa a.aOu a.aTx a.aCo s9.ct s9.nb s9.LN ((s9.x0).1) s9.CM s9.hs s9.th (bI (s9.x0).2) s9.ep s9.fc s9.σ j (xs (4 * q + 2)) (xs (4 * q + 3)) hI.1.1 hj hI.1.bd ht hg hwt hR) (cwV 3 hC.S9.2.2.2.2 gL_law_X8_litresToReachByFormula rfl rfl rfl (by decide +kernel) ⟨Nat.le_of_ble_eq_true rfl, Nat.le_of_ble_eq_true rfl⟩) [15, 16] rfl (by decide) (SameR.cons (SameR.cons SameR.nil)) (by subst eS; rfl) hP hD hS rfl hl.1 rfl (Nat.le_of_ble_eq_true rfl) ⟨hc1, hs1⟩ dL_law_1399 (fun H locs hP hD hS => ?_)
            refine lv_istore (lv' := [(7, .int 0), (6, .int 4), (5, .int (nI (4 * q))), (4, .ref a.oD), (3, .ref a.oA), (2, .ref a.am), (1, .ref a.aX), (0, .ref b)]) hx hb dL_law_1402 hl (by decide) rfl (fun ls hl => ?_)
            refine lv_aload_n hx hb dL_law_1404 rfl (lv_at hl 5 rfl) ?_
            refine lw_thrown (s1 := S9) (t1 := S9) (k := 4) hC hP (by subst eS; rfl) hl.1 (Nat.le_of_ble_eq_true rfl) ⟨hc1, hs1⟩ dL_law_1405 ?_
            refine lv_iload hx hb dL_law_1408 (lv_at hl 1 rfl) ?_
            refine lv_icmp_eq (tgt := 1415) hx hb dL_law_1410 (by decide) (fun c_1410 => ?_) (fun c_1410 => ?_)
            rotate_left
            · exact absurd c_1410 (by decide)
            refine lv_iload hx hb dL_law_1415 (lv_at hl 1 rfl) ?_
            refine lv_if_ne (tgt := 1432) hx hb dL_law_1417 (by decide) (fun c_1417 => ?_) (fun c_1417 => ?_)
            rotate_left
            · exact absurd c_1417 (by decide)
            refine lv_goto (tgt := 2890) hx hb dL_law_1432 (by decide) ?_
            exact kk S9 H locs ls (LI.of (LI.mono hI (by omega)) (by subst eS; rfl) (by subst eS; rfl) (by subst eS; rfl) (by subst eS; rfl) (by subst eS; rfl) (by subst eS; rfl) (by subst eS; rfl) (by subst eS; rfl) (by subst eS; rfl) (by subst eS; rfl) (by subst eS; rfl) (by subst eS; rfl) (by subst eS; rfl) (by subst eS; rfl) (by subst eS; rfl)) hP hD hS (lv_sub hl [2, 3, 4, 5, 6, 7] rfl)
          · obtain ⟨S9, eS⟩ : ∃ z : LwS, z = (LwS.mk s9.σ s9.υ s9.ς s9.hs s9.ep s9.fc s9.ml 0 s9.nx s9.ct s9.nb s9.n s9.LN s9.CM s9.ρ s9.x s9.x0 s9.f s9.gk s9.g1 s9.g2 s9.g3 s9.fb s9.fB s9.fA s9.fV s9.fP s9.fO s9.g (fun _ => (frmF (vB s9.σ j) (hB s9.σ j) (xs (4 * q + 2)) (xs (4 * q + 3))).toInt64) s9.fd) := ⟨_, rfl⟩
            refine lv_aload_n hx hb dL_law_1355 rfl (lv_at hl 4 rfl) ?_
            refine lv_aload_n hx hb dL_law_1356 rfl (lv_at hl 5 rfl) ?_
            refine lv_iload hx hb dL_law_1357 (lv_at hl 0 rfl) ?_
            refine lv_iconst (v := 1) hx hb dL_law_1359 (by decide) ?_
            refine lv_iadd hx hb dL_law_1360 ?_
            refine m_sld (v := nI j) hx hb hC.hX hC.hbl hC.hbA hS (k := 4 * q + 1) (m_add rfl rfl) (by omega) hC.hL e1 dL_law_1361 ?_
            refine lv_aload_n hx hb dL_law_1362 rfl (lv_at hl 5 rfl) ?_
            refine lv_iload hx hb dL_law_1363 (lv_at hl 0 rfl) ?_
            refine lv_iconst (v := 2) hx hb dL_law_1365 (by decide) ?_
            refine lv_iadd hx hb dL_law_1366 ?_
            refine m_sld (v := xs (4 * q + 2)) hx hb hC.hX hC.hbl hC.hbA hS (k := 4 * q + 2) (m_add rfl rfl) (by omega) hC.hL rfl dL_law_1367 ?_
            refine lv_aload_n hx hb dL_law_1368 rfl (lv_at hl 5 rfl) ?_
            refine lv_iload hx hb dL_law_1369 (lv_at hl 0 rfl) ?_
            refine lv_iconst (v := 3) hx hb dL_law_1371 (by decide) ?_
            refine lv_iadd hx hb dL_law_1372 ?_
            refine m_sld (v := xs (4 * q + 3)) hx hb hC.hX hC.hbl hC.hbA hS (k := 4 * q + 3) (m_add rfl rfl) (by omega) hC.hL rfl dL_law_1373 ?_
            refine lv_aload_n hx hb dL_law_1374 rfl (lv_at hl 2 rfl) ?_
            refine lw_w (mc := 0) (ms := 0) (Wc := (LCh cy a s9 s9)) (Wn := (LCh cy a S9 s9)) hC (w_litresToReachByFormula_ok l G cy kS vS a.aX a.na a.tr a.sn s9.hs a.hi a.sc s9.ep s9.fc a.ob s9.σ j (xs (4 * q + 2)) (xs (4 * q + 3)) a.oA s9.fo hI.1.1 hj hI.1.bd ht hg hwt (fun z => hR (hfe.symm.trans z))) (vx_cwSW 5 hC.S9.2.2.2.2 gL_law_L_litresToReachByFormula rfl rfl rfl (by decide +kernel) ⟨Nat.le_of_ble_eq_true rfl, Nat.le_of_ble_eq_true rfl⟩) [0, 1, 24] rfl (by decide) (SameL.cons SameA.rf (SameL.cons SameA.rf (SameL.cons SameA.one SameL.nil))) (by subst eS; rfl) hP hD hS rfl hl.1 rfl (Nat.le_of_ble_eq_true rfl) ⟨hc0, hs0⟩ dL_law_1375 (fun H locs hP hD hS => ?_)
            refine lv_istore (lv' := [(6, .int 0), (5, .int (nI (4 * q))), (4, .ref a.oD), (3, .ref a.oA), (2, .ref a.am), (1, .ref a.aX), (0, .ref b)]) hx hb dL_law_1378 hl (by decide) rfl (fun ls hl => ?_)
            refine lv_aload_n hx hb dL_law_1380 rfl (lv_at hl 4 rfl) ?_
            refine lv_aload_n hx hb dL_law_1381 rfl (lv_at hl 6 rfl) ?_
            refine lv_iload hx hb dL_law_1382 (lv_at hl 1 rfl) ?_
            refine lv_iconst (v := 1) hx hb dL_law_1384 (by decide) ?_
            refine lv_iadd hx hb dL_law_1385 ?_
            refine m_sld (v := nI j) hx hb hC.hX hC.hbl hC.hbA hS (k := 4 * q + 1) (m_add rfl rfl) (by omega) hC.hL e1 dL_law_1386 ?_
            refine lv_aload_n hx hb dL_law_1387 rfl (lv_at hl 6 rfl) ?_
            refine lv_iload hx hb dL_law_1388 (lv_at hl 1 rfl) ?_
            refine lv_iconst (v := 2) hx hb dL_law_1390 (by decide) ?_
            refine lv_iadd hx hb dL_law_1391 ?_
            refine m_sld (v := xs (4 * q + 2)) hx hb hC.hX hC.hbl hC.hbA hS (k := 4 * q + 2) (m_add rfl rfl) (by omega) hC.hL rfl dL_law_1392 ?_
            refine lv_aload_n hx hb dL_law_1393 rfl (lv_at hl 6 rfl) ?_
            refine lv_iload hx hb dL_law_1394 (lv_at hl 1 rfl) ?_
            refine lv_iconst (v := 3) hx hb dL_law_1396 (by decide) ?_
            refine lv_iadd hx hb dL_law_1397 ?_
            refine m_sld (v := xs (4 * q + 3)) hx hb hC.hX hC.hbl hC.hbA hS (k := 4 * q + 3) (m_add rfl rfl) (by omega) hC.hL rfl dL_law_1398 ?_
            refine lw_m (s1 := S9) (t1 := s9) (Wn := (LCh cy a S9 S9)) hC (c_X8_litresToReachByFormula_ok l G cy a.am a.aS a.aBf a.aAs a.aSv a.aPa a.aOu a.aTx a.aCo s9.ct s9.nb s9.LN ((s9.x0).1) s9.CM s9.hs s9.th (bI (s9.x0).2) s9.ep s9.fc s9.σ j (xs (4 * q + 2)) (xs (4 * q + 3)) (atF (ltF (vB s9.σ j) (hB s9.σ j) (xs (4 * q + 2)) (xs (4 * q + 3))) 1 0 (101 - bx (vB s9.σ j))) hI.1.1 hj hI.1.bd ht hg hwt rfl hR) (cwV 3 hC.S9.2.2.2.2 gL_law_X8_litresToReachByFormula rfl rfl rfl (by decide +kernel) ⟨Nat.le_of_ble_eq_true rfl, Nat.le_of_ble_eq_true rfl⟩) [15, 16] rfl (by decide) (SameR.cons (SameR.cons SameR.nil)) (by subst eS; rfl) hP hD hS rfl hl.1 rfl (Nat.le_of_ble_eq_true rfl) ⟨hcn, hsn⟩ dL_law_1399 (fun H locs hP hD hS => ?_)
            refine lv_istore (lv' := [(7, .int (atF (ltF (vB s9.σ j) (hB s9.σ j) (xs (4 * q + 2)) (xs (4 * q + 3))) 1 0 (101 - bx (vB s9.σ j)))), (6, .int 0), (5, .int (nI (4 * q))), (4, .ref a.oD), (3, .ref a.oA), (2, .ref a.am), (1, .ref a.aX), (0, .ref b)]) hx hb dL_law_1402 hl (by decide) rfl (fun ls hl => ?_)
            refine lv_aload_n hx hb dL_law_1404 rfl (lv_at hl 5 rfl) ?_
            refine lw_thrown (s1 := S9) (t1 := S9) (k := 0) hC hP (by subst eS; rfl) hl.1 (Nat.le_of_ble_eq_true rfl) ⟨hcn, hsn⟩ dL_law_1405 ?_
            refine lv_iload hx hb dL_law_1408 (lv_at hl 1 rfl) ?_
            refine lv_icmp_eq (tgt := 1415) hx hb dL_law_1410 (by decide) (fun c_1410 => ?_) (fun c_1410 => ?_)
            rotate_left
            · exact absurd c_1410 (by decide)
            refine lv_iload hx hb dL_law_1415 (lv_at hl 1 rfl) ?_
            refine lv_if_ne (tgt := 1432) hx hb dL_law_1417 (by decide) (fun c_1417 => ?_) (fun c_1417 => ?_)
            · exact absurd c_1417 (by decide)
            refine lv_aload_n hx hb dL_law_1420 rfl (lv_at hl 4 rfl) ?_
            refine lv_iconst (v := 0) hx hb dL_law_1421 (by decide) ?_
            refine lw_ldL (s1 := S9) (t1 := S9) (x := (frmF (vB s9.σ j) (hB s9.σ j) (xs (4 * q + 2)) (xs (4 * q + 3))).toInt64) hC hP (by subst eS; rfl) dL_law_1422 ?_
            refine lv_iload hx hb dL_law_1423 (lv_at hl 0 rfl) ?_
            refine lv_i2l hx hb dL_law_1425 rfl ?_
            refine m_lcmp0 hx hb (congrArg Int32.toInt64 hfe) dL_law_1426 ?_
            refine lv_if_eq (tgt := 1432) hx hb dL_law_1427 (by decide) (fun c_1427 => ?_) (fun c_1427 => ?_)
            rotate_left
            · exact absurd c_1427 (by decide)
            refine lv_goto (tgt := 2890) hx hb dL_law_1432 (by decide) ?_
            refine W.widen (k := cells + 1) (n := slots + 6) (by omega) (by omega) ?_
            exact kk S9 H locs ls (LI.of (LI.mono hI (by omega)) (by subst eS; rfl) (by subst eS; rfl) (by subst eS; rfl) (by subst eS; rfl) (by subst eS; rfl) (by subst eS; rfl) (by subst eS; rfl) (by subst eS; rfl) (by subst eS; rfl) (by subst eS; rfl) (by subst eS; rfl) (by subst eS; rfl) (by subst eS; rfl) (by subst eS; rfl) (by subst eS; rfl)) hP hD hS (lv_sub hl [2, 3, 4, 5, 6, 7] rfl)
        · obtain ⟨S9, eS⟩ : ∃ z : LwS, z = (LwS.mk s9.σ s9.υ s9.ς s9.hs s9.ep s9.fc s9.ml 3 s9.nx s9.ct s9.nb s9.n s9.LN s9.CM s9.ρ s9.x s9.x0 s9.f s9.gk s9.g1 s9.g2 s9.g3 s9.fb s9.fB s9.fA s9.fV s9.fP s9.fO s9.g s9.fo s9.fd) := ⟨_, rfl⟩
          refine lv_aload_n hx hb dL_law_1355 rfl (lv_at hl 4 rfl) ?_
          refine lv_aload_n hx hb dL_law_1356 rfl (lv_at hl 5 rfl) ?_
          refine lv_iload hx hb dL_law_1357 (lv_at hl 0 rfl) ?_
          refine lv_iconst (v := 1) hx hb dL_law_1359 (by decide) ?_
          refine lv_iadd hx hb dL_law_1360 ?_
          refine m_sld (v := nI j) hx hb hC.hX hC.hbl hC.hbA hS (k := 4 * q + 1) (m_add rfl rfl) (by omega) hC.hL e1 dL_law_1361 ?_
          refine lv_aload_n hx hb dL_law_1362 rfl (lv_at hl 5 rfl) ?_
          refine lv_iload hx hb dL_law_1363 (lv_at hl 0 rfl) ?_
          refine lv_iconst (v := 2) hx hb dL_law_1365 (by decide) ?_
          refine lv_iadd hx hb dL_law_1366 ?_
          refine m_sld (v := xs (4 * q + 2)) hx hb hC.hX hC.hbl hC.hbA hS (k := 4 * q + 2) (m_add rfl rfl) (by omega) hC.hL rfl dL_law_1367 ?_
          refine lv_aload_n hx hb dL_law_1368 rfl (lv_at hl 5 rfl) ?_
          refine lv_iload hx hb dL_law_1369 (lv_at hl 0 rfl) ?_
          refine lv_iconst (v := 3) hx hb dL_law_1371 (by decide) ?_
          refine lv_iadd hx hb dL_law_1372 ?_
          refine m_sld (v := xs (4 * q + 3)) hx hb hC.hX hC.hbl hC.hbA hS (k := 4 * q + 3) (m_add rfl rfl) (by omega) hC.hL rfl dL_law_1373 ?_
          refine lv_aload_n hx hb dL_law_1374 rfl (lv_at hl 2 rfl) ?_
          refine lw_w (mc := 1) (ms := 6) (Wc := (LCh cy a s9 s9)) (Wn := (LCh cy a S9 s9)) hC (w_litresToReachByFormula_3 l G cy kS vS a.aX a.na a.tr a.sn s9.hs a.hi a.sc s9.ep s9.fc a.ob s9.σ j (xs (4 * q + 2)) (xs (4 * q + 3)) a.oA s9.fo hC.hl9 hI.1.1 hj ht hg hwt) (vx_cwSW 5 hC.S9.2.2.2.2 gL_law_L_litresToReachByFormula rfl rfl rfl (by decide +kernel) ⟨Nat.le_of_ble_eq_true rfl, Nat.le_of_ble_eq_true rfl⟩) [0, 1, 24] rfl (by decide) (SameL.cons SameA.rf (SameL.cons SameA.rf (SameL.cons SameA.rf SameL.nil))) (by subst eS; rfl) hP hD hS rfl hl.1 rfl (Nat.le_of_ble_eq_true rfl) ⟨hc1, hs1⟩ dL_law_1375 (fun H locs hP hD hS => ?_)
          refine lv_istore (lv' := [(6, .int 3), (5, .int (nI (4 * q))), (4, .ref a.oD), (3, .ref a.oA), (2, .ref a.am), (1, .ref a.aX), (0, .ref b)]) hx hb dL_law_1378 hl (by decide) rfl (fun ls hl => ?_)
          refine lv_aload_n hx hb dL_law_1380 rfl (lv_at hl 4 rfl) ?_
          refine lv_aload_n hx hb dL_law_1381 rfl (lv_at hl 6 rfl) ?_
          refine lv_iload hx hb dL_law_1382 (lv_at hl 1 rfl) ?_
          refine lv_iconst (v := 1) hx hb dL_law_1384 (by decide) ?_
          refine lv_iadd hx hb dL_law_1385 ?_
          refine m_sld (v := nI j) hx hb hC.hX hC.hbl hC.hbA hS (k := 4 * q + 1) (m_add rfl rfl) (by omega) hC.hL e1 dL_law_1386 ?_
          refine lv_aload_n hx hb dL_law_1387 rfl (lv_at hl 6 rfl) ?_
          refine lv_iload hx hb dL_law_1388 (lv_at hl 1 rfl) ?_
          refine lv_iconst (v := 2) hx hb dL_law_1390 (by decide) ?_
          refine lv_iadd hx hb dL_law_1391 ?_
          refine m_sld (v := xs (4 * q + 2)) hx hb hC.hX hC.hbl hC.hbA hS (k := 4 * q + 2) (m_add rfl rfl) (by omega) hC.hL rfl dL_law_1392 ?_
          refine lv_aload_n hx hb dL_law_1393 rfl (lv_at hl 6 rfl) ?_
          refine lv_iload hx hb dL_law_1394 (lv_at hl 1 rfl) ?_
          refine lv_iconst (v := 3) hx hb dL_law_1396 (by decide) ?_
          refine lv_iadd hx hb dL_law_1397 ?_
          refine m_sld (v := xs (4 * q + 3)) hx hb hC.hX hC.hbl hC.hbA hS (k := 4 * q + 3) (m_add rfl rfl) (by omega) hC.hL rfl dL_law_1398 ?_
          refine lw_m (s1 := S9) (t1 := s9) (Wn := (LCh cy a S9 S9)) hC (c_X8_litresToReachByFormula_no5 l G cy a.am a.aS a.aBf a.aAs a.aSv a.aPa a.aOu a.aTx a.aCo s9.ct s9.nb s9.LN ((s9.x0).1) s9.CM s9.hs s9.th (bI (s9.x0).2) s9.ep s9.fc s9.σ j (xs (4 * q + 2)) (xs (4 * q + 3)) hI.1.1 hj ht hg hwt) (cwV 3 hC.S9.2.2.2.2 gL_law_X8_litresToReachByFormula rfl rfl rfl (by decide +kernel) ⟨Nat.le_of_ble_eq_true rfl, Nat.le_of_ble_eq_true rfl⟩) [15, 16] rfl (by decide) (SameR.cons (SameR.cons SameR.nil)) (by subst eS; rfl) hP hD hS rfl hl.1 rfl (Nat.le_of_ble_eq_true rfl) ⟨hc1, hs1⟩ dL_law_1399 (fun H locs hP hD hS => ?_)
          refine lv_istore (lv' := [(7, .int 0), (6, .int 3), (5, .int (nI (4 * q))), (4, .ref a.oD), (3, .ref a.oA), (2, .ref a.am), (1, .ref a.aX), (0, .ref b)]) hx hb dL_law_1402 hl (by decide) rfl (fun ls hl => ?_)
          refine lv_aload_n hx hb dL_law_1404 rfl (lv_at hl 5 rfl) ?_
          refine lw_thrown (s1 := S9) (t1 := S9) (k := 3) hC hP (by subst eS; rfl) hl.1 (Nat.le_of_ble_eq_true rfl) ⟨hc1, hs1⟩ dL_law_1405 ?_
          refine lv_iload hx hb dL_law_1408 (lv_at hl 1 rfl) ?_
          refine lv_icmp_eq (tgt := 1415) hx hb dL_law_1410 (by decide) (fun c_1410 => ?_) (fun c_1410 => ?_)
          rotate_left
          · exact absurd c_1410 (by decide)
          refine lv_iload hx hb dL_law_1415 (lv_at hl 1 rfl) ?_
          refine lv_if_ne (tgt := 1432) hx hb dL_law_1417 (by decide) (fun c_1417 => ?_) (fun c_1417 => ?_)
          rotate_left
          · exact absurd c_1417 (by decide)
          refine lv_goto (tgt := 2890) hx hb dL_law_1432 (by decide) ?_
          exact kk S9 H locs ls (LI.of (LI.mono hI (by omega)) (by subst eS; rfl) (by subst eS; rfl) (by subst eS; rfl) (by subst eS; rfl) (by subst eS; rfl) (by subst eS; rfl) (by subst eS; rfl) (by subst eS; rfl) (by subst eS; rfl) (by subst eS; rfl) (by subst eS; rfl) (by subst eS; rfl) (by subst eS; rfl) (by subst eS; rfl) (by subst eS; rfl)) hP hD hS (lv_sub hl [2, 3, 4, 5, 6, 7] rfl)
      · obtain ⟨S9, eS⟩ : ∃ z : LwS, z = (LwS.mk s9.σ s9.υ s9.ς s9.hs s9.ep s9.fc s9.ml 2 s9.nx s9.ct s9.nb s9.n s9.LN s9.CM s9.ρ s9.x s9.x0 s9.f s9.gk s9.g1 s9.g2 s9.g3 s9.fb s9.fB s9.fA s9.fV s9.fP s9.fO s9.g s9.fo s9.fd) := ⟨_, rfl⟩
        refine lv_aload_n hx hb dL_law_1355 rfl (lv_at hl 4 rfl) ?_
        refine lv_aload_n hx hb dL_law_1356 rfl (lv_at hl 5 rfl) ?_
        refine lv_iload hx hb dL_law_1357 (lv_at hl 0 rfl) ?_
        refine lv_iconst (v := 1) hx hb dL_law_1359 (by decide) ?_
        refine lv_iadd hx hb dL_law_1360 ?_
        refine m_sld (v := nI j) hx hb hC.hX hC.hbl hC.hbA hS (k := 4 * q + 1) (m_add rfl rfl) (by omega) hC.hL e1 dL_law_1361 ?_
        refine lv_aload_n hx hb dL_law_1362 rfl (lv_at hl 5 rfl) ?_
        refine lv_iload hx hb dL_law_1363 (lv_at hl 0 rfl) ?_
        refine lv_iconst (v := 2) hx hb dL_law_1365 (by decide) ?_
        refine lv_iadd hx hb dL_law_1366 ?_
        refine m_sld (v := xs (4 * q + 2)) hx hb hC.hX hC.hbl hC.hbA hS (k := 4 * q + 2) (m_add rfl rfl) (by omega) hC.hL rfl dL_law_1367 ?_
        refine lv_aload_n hx hb dL_law_1368 rfl (lv_at hl 5 rfl) ?_
        refine lv_iload hx hb dL_law_1369 (lv_at hl 0 rfl) ?_
        refine lv_iconst (v := 3) hx hb dL_law_1371 (by decide) ?_
        refine lv_iadd hx hb dL_law_1372 ?_
        refine m_sld (v := xs (4 * q + 3)) hx hb hC.hX hC.hbl hC.hbA hS (k := 4 * q + 3) (m_add rfl rfl) (by omega) hC.hL rfl dL_law_1373 ?_
        refine lv_aload_n hx hb dL_law_1374 rfl (lv_at hl 2 rfl) ?_
        refine lw_w (mc := 1) (ms := 6) (Wc := (LCh cy a s9 s9)) (Wn := (LCh cy a S9 s9)) hC (w_litresToReachByFormula_2 l G cy kS vS a.aX a.na a.tr a.sn s9.hs a.hi a.sc s9.ep s9.fc a.ob s9.σ j (xs (4 * q + 2)) (xs (4 * q + 3)) a.oA s9.fo hC.hl9 hI.1.1 hj (fun z => hg z.2)) (vx_cwSW 5 hC.S9.2.2.2.2 gL_law_L_litresToReachByFormula rfl rfl rfl (by decide +kernel) ⟨Nat.le_of_ble_eq_true rfl, Nat.le_of_ble_eq_true rfl⟩) [0, 1, 24] rfl (by decide) (SameL.cons SameA.rf (SameL.cons SameA.rf (SameL.cons SameA.rf SameL.nil))) (by subst eS; rfl) hP hD hS rfl hl.1 rfl (Nat.le_of_ble_eq_true rfl) ⟨hc1, hs1⟩ dL_law_1375 (fun H locs hP hD hS => ?_)
        refine lv_istore (lv' := [(6, .int 2), (5, .int (nI (4 * q))), (4, .ref a.oD), (3, .ref a.oA), (2, .ref a.am), (1, .ref a.aX), (0, .ref b)]) hx hb dL_law_1378 hl (by decide) rfl (fun ls hl => ?_)
        refine lv_aload_n hx hb dL_law_1380 rfl (lv_at hl 4 rfl) ?_
        refine lv_aload_n hx hb dL_law_1381 rfl (lv_at hl 6 rfl) ?_
        refine lv_iload hx hb dL_law_1382 (lv_at hl 1 rfl) ?_
        refine lv_iconst (v := 1) hx hb dL_law_1384 (by decide) ?_
        refine lv_iadd hx hb dL_law_1385 ?_
        refine m_sld (v := nI j) hx hb hC.hX hC.hbl hC.hbA hS (k := 4 * q + 1) (m_add rfl rfl) (by omega) hC.hL e1 dL_law_1386 ?_
        refine lv_aload_n hx hb dL_law_1387 rfl (lv_at hl 6 rfl) ?_
        refine lv_iload hx hb dL_law_1388 (lv_at hl 1 rfl) ?_
        refine lv_iconst (v := 2) hx hb dL_law_1390 (by decide) ?_
        refine lv_iadd hx hb dL_law_1391 ?_
        refine m_sld (v := xs (4 * q + 2)) hx hb hC.hX hC.hbl hC.hbA hS (k := 4 * q + 2) (m_add rfl rfl) (by omega) hC.hL rfl dL_law_1392 ?_
        refine lv_aload_n hx hb dL_law_1393 rfl (lv_at hl 6 rfl) ?_
        refine lv_iload hx hb dL_law_1394 (lv_at hl 1 rfl) ?_
        refine lv_iconst (v := 3) hx hb dL_law_1396 (by decide) ?_
        refine lv_iadd hx hb dL_law_1397 ?_
        refine m_sld (v := xs (4 * q + 3)) hx hb hC.hX hC.hbl hC.hbA hS (k := 4 * q + 3) (m_add rfl rfl) (by omega) hC.hL rfl dL_law_1398 ?_
        refine lw_m (s1 := S9) (t1 := s9) (Wn := (LCh cy a S9 S9)) hC (c_X8_litresToReachByFormula_no3 l G cy a.am a.aS a.aBf a.aAs a.aSv a.aPa a.aOu a.aTx a.aCo s9.ct s9.nb s9.LN ((s9.x0).1) s9.CM s9.hs s9.th (bI (s9.x0).2) s9.ep s9.fc s9.σ j (xs (4 * q + 2)) (xs (4 * q + 3)) hI.1.1 hj ht hg) (cwV 3 hC.S9.2.2.2.2 gL_law_X8_litresToReachByFormula rfl rfl rfl (by decide +kernel) ⟨Nat.le_of_ble_eq_true rfl, Nat.le_of_ble_eq_true rfl⟩) [15, 16] rfl (by decide) (SameR.cons (SameR.cons SameR.nil)) (by subst eS; rfl) hP hD hS rfl hl.1 rfl (Nat.le_of_ble_eq_true rfl) ⟨hc1, hs1⟩ dL_law_1399 (fun H locs hP hD hS => ?_)
        refine lv_istore (lv' := [(7, .int 0), (6, .int 2), (5, .int (nI (4 * q))), (4, .ref a.oD), (3, .ref a.oA), (2, .ref a.am), (1, .ref a.aX), (0, .ref b)]) hx hb dL_law_1402 hl (by decide) rfl (fun ls hl => ?_)
        refine lv_aload_n hx hb dL_law_1404 rfl (lv_at hl 5 rfl) ?_
        refine lw_thrown (s1 := S9) (t1 := S9) (k := 2) hC hP (by subst eS; rfl) hl.1 (Nat.le_of_ble_eq_true rfl) ⟨hc1, hs1⟩ dL_law_1405 ?_
        refine lv_iload hx hb dL_law_1408 (lv_at hl 1 rfl) ?_
        refine lv_icmp_eq (tgt := 1415) hx hb dL_law_1410 (by decide) (fun c_1410 => ?_) (fun c_1410 => ?_)
        rotate_left
        · exact absurd c_1410 (by decide)
        refine lv_iload hx hb dL_law_1415 (lv_at hl 1 rfl) ?_
        refine lv_if_ne (tgt := 1432) hx hb dL_law_1417 (by decide) (fun c_1417 => ?_) (fun c_1417 => ?_)
        rotate_left
        · exact absurd c_1417 (by decide)
        refine lv_goto (tgt := 2890) hx hb dL_law_1432 (by decide) ?_
        exact kk S9 H locs ls (LI.of (LI.mono hI (by omega)) (by subst eS; rfl) (by subst eS; rfl) (by subst eS; rfl) (by subst eS; rfl) (by subst eS; rfl) (by subst eS; rfl) (by subst eS; rfl) (by subst eS; rfl) (by subst eS; rfl) (by subst eS; rfl) (by subst eS; rfl) (by subst eS; rfl) (by subst eS; rfl) (by subst eS; rfl) (by subst eS; rfl)) hP hD hS (lv_sub hl [2, 3, 4, 5, 6, 7] rfl)
    · obtain ⟨S9, eS⟩ : ∃ z : LwS, z = (LwS.mk s9.σ s9.υ s9.ς s9.hs s9.ep s9.fc s9.ml 2 s9.nx s9.ct s9.nb s9.n s9.LN s9.CM s9.ρ s9.x s9.x0 s9.f s9.gk s9.g1 s9.g2 s9.g3 s9.fb s9.fB s9.fA s9.fV s9.fP s9.fO s9.g s9.fo s9.fd) := ⟨_, rfl⟩
      refine lv_aload_n hx hb dL_law_1355 rfl (lv_at hl 4 rfl) ?_
      refine lv_aload_n hx hb dL_law_1356 rfl (lv_at hl 5 rfl) ?_
      refine lv_iload hx hb dL_law_1357 (lv_at hl 0 rfl) ?_
      refine lv_iconst (v := 1) hx hb dL_law_1359 (by decide) ?_
      refine lv_iadd hx hb dL_law_1360 ?_
      refine m_sld (v := nI j) hx hb hC.hX hC.hbl hC.hbA hS (k := 4 * q + 1) (m_add rfl rfl) (by omega) hC.hL e1 dL_law_1361 ?_
      refine lv_aload_n hx hb dL_law_1362 rfl (lv_at hl 5 rfl) ?_
      refine lv_iload hx hb dL_law_1363 (lv_at hl 0 rfl) ?_
      refine lv_iconst (v := 2) hx hb dL_law_1365 (by decide) ?_
      refine lv_iadd hx hb dL_law_1366 ?_
      refine m_sld (v := xs (4 * q + 2)) hx hb hC.hX hC.hbl hC.hbA hS (k := 4 * q + 2) (m_add rfl rfl) (by omega) hC.hL rfl dL_law_1367 ?_
      refine lv_aload_n hx hb dL_law_1368 rfl (lv_at hl 5 rfl) ?_
      refine lv_iload hx hb dL_law_1369 (lv_at hl 0 rfl) ?_
      refine lv_iconst (v := 3) hx hb dL_law_1371 (by decide) ?_
      refine lv_iadd hx hb dL_law_1372 ?_
      refine m_sld (v := xs (4 * q + 3)) hx hb hC.hX hC.hbl hC.hbA hS (k := 4 * q + 3) (m_add rfl rfl) (by omega) hC.hL rfl dL_law_1373 ?_
      refine lv_aload_n hx hb dL_law_1374 rfl (lv_at hl 2 rfl) ?_
      refine lw_w (mc := 1) (ms := 6) (Wc := (LCh cy a s9 s9)) (Wn := (LCh cy a S9 s9)) hC (w_litresToReachByFormula_2 l G cy kS vS a.aX a.na a.tr a.sn s9.hs a.hi a.sc s9.ep s9.fc a.ob s9.σ j (xs (4 * q + 2)) (xs (4 * q + 3)) a.oA s9.fo hC.hl9 hI.1.1 hj (fun z => ht z.1)) (vx_cwSW 5 hC.S9.2.2.2.2 gL_law_L_litresToReachByFormula rfl rfl rfl (by decide +kernel) ⟨Nat.le_of_ble_eq_true rfl, Nat.le_of_ble_eq_true rfl⟩) [0, 1, 24] rfl (by decide) (SameL.cons SameA.rf (SameL.cons SameA.rf (SameL.cons SameA.rf SameL.nil))) (by subst eS; rfl) hP hD hS rfl hl.1 rfl (Nat.le_of_ble_eq_true rfl) ⟨hc1, hs1⟩ dL_law_1375 (fun H locs hP hD hS => ?_)
      refine lv_istore (lv' := [(6, .int 2), (5, .int (nI (4 * q))), (4, .ref a.oD), (3, .ref a.oA), (2, .ref a.am), (1, .ref a.aX), (0, .ref b)]) hx hb dL_law_1378 hl (by decide) rfl (fun ls hl => ?_)
      refine lv_aload_n hx hb dL_law_1380 rfl (lv_at hl 4 rfl) ?_
      refine lv_aload_n hx hb dL_law_1381 rfl (lv_at hl 6 rfl) ?_
      refine lv_iload hx hb dL_law_1382 (lv_at hl 1 rfl) ?_
      refine lv_iconst (v := 1) hx hb dL_law_1384 (by decide) ?_
      refine lv_iadd hx hb dL_law_1385 ?_
      refine m_sld (v := nI j) hx hb hC.hX hC.hbl hC.hbA hS (k := 4 * q + 1) (m_add rfl rfl) (by omega) hC.hL e1 dL_law_1386 ?_
      refine lv_aload_n hx hb dL_law_1387 rfl (lv_at hl 6 rfl) ?_
      refine lv_iload hx hb dL_law_1388 (lv_at hl 1 rfl) ?_
      refine lv_iconst (v := 2) hx hb dL_law_1390 (by decide) ?_
      refine lv_iadd hx hb dL_law_1391 ?_
      refine m_sld (v := xs (4 * q + 2)) hx hb hC.hX hC.hbl hC.hbA hS (k := 4 * q + 2) (m_add rfl rfl) (by omega) hC.hL rfl dL_law_1392 ?_
      refine lv_aload_n hx hb dL_law_1393 rfl (lv_at hl 6 rfl) ?_
      refine lv_iload hx hb dL_law_1394 (lv_at hl 1 rfl) ?_
      refine lv_iconst (v := 3) hx hb dL_law_1396 (by decide) ?_
      refine lv_iadd hx hb dL_law_1397 ?_
      refine m_sld (v := xs (4 * q + 3)) hx hb hC.hX hC.hbl hC.hbA hS (k := 4 * q + 3) (m_add rfl rfl) (by omega) hC.hL rfl dL_law_1398 ?_
      refine lw_m (s1 := S9) (t1 := s9) (Wn := (LCh cy a S9 S9)) hC (c_X8_litresToReachByFormula_no2 l G cy a.am a.aS a.aBf a.aAs a.aSv a.aPa a.aOu a.aTx a.aCo s9.ct s9.nb s9.LN ((s9.x0).1) s9.CM s9.hs s9.th (bI (s9.x0).2) s9.ep s9.fc s9.σ j (xs (4 * q + 2)) (xs (4 * q + 3)) hI.1.1 hj ht) (cwV 3 hC.S9.2.2.2.2 gL_law_X8_litresToReachByFormula rfl rfl rfl (by decide +kernel) ⟨Nat.le_of_ble_eq_true rfl, Nat.le_of_ble_eq_true rfl⟩) [15, 16] rfl (by decide) (SameR.cons (SameR.cons SameR.nil)) (by subst eS; rfl) hP hD hS rfl hl.1 rfl (Nat.le_of_ble_eq_true rfl) ⟨hc1, hs1⟩ dL_law_1399 (fun H locs hP hD hS => ?_)
      refine lv_istore (lv' := [(7, .int 0), (6, .int 2), (5, .int (nI (4 * q))), (4, .ref a.oD), (3, .ref a.oA), (2, .ref a.am), (1, .ref a.aX), (0, .ref b)]) hx hb dL_law_1402 hl (by decide) rfl (fun ls hl => ?_)
      refine lv_aload_n hx hb dL_law_1404 rfl (lv_at hl 5 rfl) ?_
      refine lw_thrown (s1 := S9) (t1 := S9) (k := 2) hC hP (by subst eS; rfl) hl.1 (Nat.le_of_ble_eq_true rfl) ⟨hc1, hs1⟩ dL_law_1405 ?_
      refine lv_iload hx hb dL_law_1408 (lv_at hl 1 rfl) ?_
      refine lv_icmp_eq (tgt := 1415) hx hb dL_law_1410 (by decide) (fun c_1410 => ?_) (fun c_1410 => ?_)
      rotate_left
      · exact absurd c_1410 (by decide)
      refine lv_iload hx hb dL_law_1415 (lv_at hl 1 rfl) ?_
      refine lv_if_ne (tgt := 1432) hx hb dL_law_1417 (by decide) (fun c_1417 => ?_) (fun c_1417 => ?_)
      rotate_left
      · exact absurd c_1417 (by decide)
      refine lv_goto (tgt := 2890) hx hb dL_law_1432 (by decide) ?_
      exact kk S9 H locs ls (LI.of (LI.mono hI (by omega)) (by subst eS; rfl) (by subst eS; rfl) (by subst eS; rfl) (by subst eS; rfl) (by subst eS; rfl) (by subst eS; rfl) (by subst eS; rfl) (by subst eS; rfl) (by subst eS; rfl) (by subst eS; rfl) (by subst eS; rfl) (by subst eS; rfl) (by subst eS; rfl) (by subst eS; rfl) (by subst eS; rfl)) hP hD hS (lv_sub hl [2, 3, 4, 5, 6, 7] rfl)
  · obtain ⟨S9, eS⟩ : ∃ z : LwS, z = (LwS.mk s9.σ s9.υ s9.ς s9.hs s9.ep s9.fc s9.ml 1 s9.nx s9.ct s9.nb s9.n s9.LN s9.CM s9.ρ s9.x s9.x0 s9.f s9.gk s9.g1 s9.g2 s9.g3 s9.fb s9.fB s9.fA s9.fV s9.fP s9.fO s9.g s9.fo s9.fd) := ⟨_, rfl⟩
    refine lv_aload_n hx hb dL_law_1355 rfl (lv_at hl 4 rfl) ?_
    refine lv_aload_n hx hb dL_law_1356 rfl (lv_at hl 5 rfl) ?_
    refine lv_iload hx hb dL_law_1357 (lv_at hl 0 rfl) ?_
    refine lv_iconst (v := 1) hx hb dL_law_1359 (by decide) ?_
    refine lv_iadd hx hb dL_law_1360 ?_
    refine m_sld (v := xs (4 * q + 1)) hx hb hC.hX hC.hbl hC.hbA hS (k := 4 * q + 1) (m_add rfl rfl) (by omega) hC.hL rfl dL_law_1361 ?_
    refine lv_aload_n hx hb dL_law_1362 rfl (lv_at hl 5 rfl) ?_
    refine lv_iload hx hb dL_law_1363 (lv_at hl 0 rfl) ?_
    refine lv_iconst (v := 2) hx hb dL_law_1365 (by decide) ?_
    refine lv_iadd hx hb dL_law_1366 ?_
    refine m_sld (v := xs (4 * q + 2)) hx hb hC.hX hC.hbl hC.hbA hS (k := 4 * q + 2) (m_add rfl rfl) (by omega) hC.hL rfl dL_law_1367 ?_
    refine lv_aload_n hx hb dL_law_1368 rfl (lv_at hl 5 rfl) ?_
    refine lv_iload hx hb dL_law_1369 (lv_at hl 0 rfl) ?_
    refine lv_iconst (v := 3) hx hb dL_law_1371 (by decide) ?_
    refine lv_iadd hx hb dL_law_1372 ?_
    refine m_sld (v := xs (4 * q + 3)) hx hb hC.hX hC.hbl hC.hbA hS (k := 4 * q + 3) (m_add rfl rfl) (by omega) hC.hL rfl dL_law_1373 ?_
    refine lv_aload_n hx hb dL_law_1374 rfl (lv_at hl 2 rfl) ?_
    refine lw_w (mc := 1) (ms := 6) (Wc := (LCh cy a s9 s9)) (Wn := (LCh cy a S9 s9)) hC (w_litresToReachByFormula_1 l G cy kS vS a.aX a.na a.tr a.sn s9.hs a.hi a.sc s9.ep s9.fc a.ob s9.σ (xs (4 * q + 1)) (xs (4 * q + 2)) (xs (4 * q + 3)) a.oA s9.fo hC.hl9 hI.1.1 hF) (vx_cwSW 5 hC.S9.2.2.2.2 gL_law_L_litresToReachByFormula rfl rfl rfl (by decide +kernel) ⟨Nat.le_of_ble_eq_true rfl, Nat.le_of_ble_eq_true rfl⟩) [0, 1, 24] rfl (by decide) (SameL.cons SameA.rf (SameL.cons SameA.rf (SameL.cons SameA.rf SameL.nil))) (by subst eS; rfl) hP hD hS rfl hl.1 rfl (Nat.le_of_ble_eq_true rfl) ⟨hc1, hs1⟩ dL_law_1375 (fun H locs hP hD hS => ?_)
    refine lv_istore (lv' := [(6, .int 1), (5, .int (nI (4 * q))), (4, .ref a.oD), (3, .ref a.oA), (2, .ref a.am), (1, .ref a.aX), (0, .ref b)]) hx hb dL_law_1378 hl (by decide) rfl (fun ls hl => ?_)
    refine lv_aload_n hx hb dL_law_1380 rfl (lv_at hl 4 rfl) ?_
    refine lv_aload_n hx hb dL_law_1381 rfl (lv_at hl 6 rfl) ?_
    refine lv_iload hx hb dL_law_1382 (lv_at hl 1 rfl) ?_
    refine lv_iconst (v := 1) hx hb dL_law_1384 (by decide) ?_
    refine lv_iadd hx hb dL_law_1385 ?_
    refine m_sld (v := xs (4 * q + 1)) hx hb hC.hX hC.hbl hC.hbA hS (k := 4 * q + 1) (m_add rfl rfl) (by omega) hC.hL rfl dL_law_1386 ?_
    refine lv_aload_n hx hb dL_law_1387 rfl (lv_at hl 6 rfl) ?_
    refine lv_iload hx hb dL_law_1388 (lv_at hl 1 rfl) ?_
    refine lv_iconst (v := 2) hx hb dL_law_1390 (by decide) ?_
    refine lv_iadd hx hb dL_law_1391 ?_
    refine m_sld (v := xs (4 * q + 2)) hx hb hC.hX hC.hbl hC.hbA hS (k := 4 * q + 2) (m_add rfl rfl) (by omega) hC.hL rfl dL_law_1392 ?_
    refine lv_aload_n hx hb dL_law_1393 rfl (lv_at hl 6 rfl) ?_
    refine lv_iload hx hb dL_law_1394 (lv_at hl 1 rfl) ?_
    refine lv_iconst (v := 3) hx hb dL_law_1396 (by decide) ?_
    refine lv_iadd hx hb dL_law_1397 ?_
    refine m_sld (v := xs (4 * q + 3)) hx hb hC.hX hC.hbl hC.hbA hS (k := 4 * q + 3) (m_add rfl rfl) (by omega) hC.hL rfl dL_law_1398 ?_
    refine lw_m (s1 := S9) (t1 := s9) (Wn := (LCh cy a S9 S9)) hC (c_X8_litresToReachByFormula_no1 l G cy a.am a.aS a.aBf a.aAs a.aSv a.aPa a.aOu a.aTx a.aCo s9.ct s9.nb s9.LN ((s9.x0).1) s9.CM s9.hs s9.th (bI (s9.x0).2) s9.ep s9.fc s9.σ (xs (4 * q + 1)) (xs (4 * q + 2)) (xs (4 * q + 3)) hI.1.1 hF) (cwV 3 hC.S9.2.2.2.2 gL_law_X8_litresToReachByFormula rfl rfl rfl (by decide +kernel) ⟨Nat.le_of_ble_eq_true rfl, Nat.le_of_ble_eq_true rfl⟩) [15, 16] rfl (by decide) (SameR.cons (SameR.cons SameR.nil)) (by subst eS; rfl) hP hD hS rfl hl.1 rfl (Nat.le_of_ble_eq_true rfl) ⟨hc1, hs1⟩ dL_law_1399 (fun H locs hP hD hS => ?_)
    refine lv_istore (lv' := [(7, .int 0), (6, .int 1), (5, .int (nI (4 * q))), (4, .ref a.oD), (3, .ref a.oA), (2, .ref a.am), (1, .ref a.aX), (0, .ref b)]) hx hb dL_law_1402 hl (by decide) rfl (fun ls hl => ?_)
    refine lv_aload_n hx hb dL_law_1404 rfl (lv_at hl 5 rfl) ?_
    refine lw_thrown (s1 := S9) (t1 := S9) (k := 1) hC hP (by subst eS; rfl) hl.1 (Nat.le_of_ble_eq_true rfl) ⟨hc1, hs1⟩ dL_law_1405 ?_
    refine lv_iload hx hb dL_law_1408 (lv_at hl 1 rfl) ?_
    refine lv_icmp_eq (tgt := 1415) hx hb dL_law_1410 (by decide) (fun c_1410 => ?_) (fun c_1410 => ?_)
    rotate_left
    · exact absurd c_1410 (by decide)
    refine lv_iload hx hb dL_law_1415 (lv_at hl 1 rfl) ?_
    refine lv_if_ne (tgt := 1432) hx hb dL_law_1417 (by decide) (fun c_1417 => ?_) (fun c_1417 => ?_)
    rotate_left
    · exact absurd c_1417 (by decide)
    refine lv_goto (tgt := 2890) hx hb dL_law_1432 (by decide) ?_
    exact kk S9 H locs ls (LI.of (LI.mono hI (by omega)) (by subst eS; rfl) (by subst eS; rfl) (by subst eS; rfl) (by subst eS; rfl) (by subst eS; rfl) (by subst eS; rfl) (by subst eS; rfl) (by subst eS; rfl) (by subst eS; rfl) (by subst eS; rfl) (by subst eS; rfl) (by subst eS; rfl) (by subst eS; rfl) (by subst eS; rfl) (by subst eS; rfl)) hP hD hS (lv_sub hl [2, 3, 4, 5, 6, 7] rfl)

set_option maxRecDepth 100000 in
set_option maxHeartbeats 4000000 in
theorem case_18 {p : Program} {l : Launch} {e : Env} {s : State} {m : MethodId} {below : List Frame} {meth : Method} {cq : Code} {G : va_G} {cy : Nat → ClassId} {kS vS : Nat → Nat} {A : Nat → Prop} {a : LA} {b L q : Nat} {xs : Nat → Int32} {Q : State → Prop} {n0 cells slots : Nat} (hC : LC l p s m meth cq G cy kS vS A b L xs) (hq : 4 * q + 4 ≤ L) (hn0 : n0 < 1000000) (hc1 : cells + 1 ≤ room_1.cells) (hs1 : slots + 6 ≤ room_1.slots) (kk : LGo p l e s m below meth cq G cy A a b q Q (n0 + 300) (cells + 1) (slots + 6) 2890) : LGo p l e s m below meth cq G cy A a b q Q n0 cells slots 1435 := by
  intro s9 H locs ls hI hP hD hS hl
  obtain ⟨hx, hb, hml, hown, hts⟩ := id hC.S9
  have hL9 := hC.hL
  have hc0 : cells + 0 ≤ room_1.cells := Nat.le_of_succ_le hc1
  have hcn : cells ≤ room_1.cells := Nat.le_of_succ_le hc1
  have hs0 : slots + 0 ≤ room_1.slots := Nat.le_trans (Nat.le_add_right slots 6) hs1
  have hsn : slots ≤ room_1.slots := Nat.le_trans (Nat.le_add_right slots 6) hs1
  have ho := hI.1.1
  have hN0 := ho.1
  have hM0 := ho.2.1
  have hE0 := ho.2.2.1
  have hnx := hI.2.2.2.2.1
  have hct := hI.2.2.2.2.2.1
  by_cases hF : inI (xs (4 * q + 1)) (nI (nB s9.σ)) = true
  · obtain ⟨j, hj, e1⟩ := ix_of (by omega) hF
    by_cases hz : mB s9.σ j = 0
    · obtain ⟨S9, eS⟩ : ∃ z : LwS, z = (LwS.mk s9.σ s9.υ s9.ς s9.hs s9.ep s9.fc s9.ml 0 s9.nx s9.ct s9.nb s9.n s9.LN s9.CM s9.ρ s9.x s9.x0 s9.f s9.gk s9.g1 s9.g2 s9.g3 s9.fb s9.fB s9.fA s9.fV s9.fP s9.fO s9.g (fun _ => vL (mB s9.σ j)) s9.fd) := ⟨_, rfl⟩
      refine lv_aload_n hx hb dL_law_1435 rfl (lv_at hl 4 rfl) ?_
      refine lv_aload_n hx hb dL_law_1436 rfl (lv_at hl 5 rfl) ?_
      refine lv_iload hx hb dL_law_1437 (lv_at hl 0 rfl) ?_
      refine lv_iconst (v := 1) hx hb dL_law_1439 (by decide) ?_
      refine lv_iadd hx hb dL_law_1440 ?_
      refine m_sld (v := nI j) hx hb hC.hX hC.hbl hC.hbA hS (k := 4 * q + 1) (m_add rfl rfl) (by omega) hC.hL e1 dL_law_1441 ?_
      refine lv_aload_n hx hb dL_law_1442 rfl (lv_at hl 2 rfl) ?_
      refine lw_w (mc := 0) (ms := 0) (Wc := (LCh cy a s9 s9)) (Wn := (LCh cy a S9 s9)) hC (w_isMember_ok l G cy kS vS a.aX a.na a.tr a.sn s9.hs a.hi a.sc s9.ep s9.fc a.ob s9.σ j a.oA s9.fo hI.1.1 hj) (vx_cwSW 3 hC.S9.2.2.2.2 gL_law_L_isMember rfl rfl rfl (by decide +kernel) ⟨Nat.le_of_ble_eq_true rfl, Nat.le_of_ble_eq_true rfl⟩) [0, 1, 24] rfl (by decide) (SameL.cons SameA.rf (SameL.cons SameA.rf (SameL.cons SameA.one SameL.nil))) (by subst eS; rfl) hP hD hS rfl hl.1 rfl (Nat.le_of_ble_eq_true rfl) ⟨hc0, hs0⟩ dL_law_1443 (fun H locs hP hD hS => ?_)
      refine lv_istore (lv' := [(6, .int 0), (5, .int (nI (4 * q))), (4, .ref a.oD), (3, .ref a.oA), (2, .ref a.am), (1, .ref a.aX), (0, .ref b)]) hx hb dL_law_1446 hl (by decide) rfl (fun ls hl => ?_)
      refine lv_aload_n hx hb dL_law_1448 rfl (lv_at hl 4 rfl) ?_
      refine lv_aload_n hx hb dL_law_1449 rfl (lv_at hl 6 rfl) ?_
      refine lv_iload hx hb dL_law_1450 (lv_at hl 1 rfl) ?_
      refine lv_iconst (v := 1) hx hb dL_law_1452 (by decide) ?_
      refine lv_iadd hx hb dL_law_1453 ?_
      refine m_sld (v := nI j) hx hb hC.hX hC.hbl hC.hbA hS (k := 4 * q + 1) (m_add rfl rfl) (by omega) hC.hL e1 dL_law_1454 ?_
      refine lw_m (s1 := S9) (t1 := s9) (Wn := (LCh cy a S9 S9)) hC (c_X8_isMember_ok l G cy a.am a.aS a.aBf a.aAs a.aSv a.aPa a.aOu a.aTx a.aCo s9.ct s9.nb s9.LN ((s9.x0).1) s9.CM s9.hs s9.th (bI (s9.x0).2) s9.ep s9.fc s9.σ j hI.1.1 hj) (cwV 1 hC.S9.2.2.2.2 gL_law_X8_isMember rfl rfl rfl (by decide +kernel) ⟨Nat.le_of_ble_eq_true rfl, Nat.le_of_ble_eq_true rfl⟩) [15, 16] rfl (by decide) (SameR.cons (SameR.cons SameR.nil)) (by subst eS; rfl) hP hD hS rfl hl.1 rfl (Nat.le_of_ble_eq_true rfl) ⟨hcn, hsn⟩ dL_law_1455 (fun H locs hP hD hS => ?_)
      refine lv_istore (lv' := [(7, .int (mB s9.σ j)), (6, .int 0), (5, .int (nI (4 * q))), (4, .ref a.oD), (3, .ref a.oA), (2, .ref a.am), (1, .ref a.aX), (0, .ref b)]) hx hb dL_law_1458 hl (by decide) rfl (fun ls hl => ?_)
      refine lv_aload_n hx hb dL_law_1460 rfl (lv_at hl 5 rfl) ?_
      refine lw_thrown (s1 := S9) (t1 := S9) (k := 0) hC hP (by subst eS; rfl) hl.1 (Nat.le_of_ble_eq_true rfl) ⟨hcn, hsn⟩ dL_law_1461 ?_
      refine lv_iload hx hb dL_law_1464 (lv_at hl 1 rfl) ?_
      refine lv_icmp_eq (tgt := 1471) hx hb dL_law_1466 (by decide) (fun c_1466 => ?_) (fun c_1466 => ?_)
      rotate_left
      · exact absurd c_1466 (by decide)
      refine lv_iload hx hb dL_law_1471 (lv_at hl 1 rfl) ?_
      refine lv_if_ne (tgt := 1495) hx hb dL_law_1473 (by decide) (fun c_1473 => ?_) (fun c_1473 => ?_)
      · exact absurd c_1473 (by decide)
      refine lv_aload_n hx hb dL_law_1476 rfl (lv_at hl 4 rfl) ?_
      refine lv_iconst (v := 0) hx hb dL_law_1477 (by decide) ?_
      refine lw_ldL (s1 := S9) (t1 := S9) (x := vL (mB s9.σ j)) hC hP (by subst eS; rfl) dL_law_1478 ?_
      refine lv_iload hx hb dL_law_1479 (lv_at hl 0 rfl) ?_
      refine lv_if_eq (tgt := 1488) hx hb dL_law_1481 (by decide) (fun c_1481 => ?_) (fun c_1481 => ?_)
      rotate_left
      · exact absurd hz c_1481
      refine lv_lconst (v := 0) hx hb dL_law_1488 (by decide) ?_
      refine m_lcmp0 hx hb (if_pos hz) dL_law_1489 ?_
      refine lv_if_eq (tgt := 1495) hx hb dL_law_1490 (by decide) (fun c_1490 => ?_) (fun c_1490 => ?_)
      rotate_left
      · exact absurd c_1490 (by decide)
      refine lv_goto (tgt := 2890) hx hb dL_law_1495 (by decide) ?_
      refine W.widen (k := cells + 1) (n := slots + 6) (by omega) (by omega) ?_
      exact kk S9 H locs ls (LI.of (LI.mono hI (by omega)) (by subst eS; rfl) (by subst eS; rfl) (by subst eS; rfl) (by subst eS; rfl) (by subst eS; rfl) (by subst eS; rfl) (by subst eS; rfl) (by subst eS; rfl) (by subst eS; rfl) (by subst eS; rfl) (by subst eS; rfl) (by subst eS; rfl) (by subst eS; rfl) (by subst eS; rfl) (by subst eS; rfl)) hP hD hS (lv_sub hl [2, 3, 4, 5, 6, 7] rfl)
    · obtain ⟨S9, eS⟩ : ∃ z : LwS, z = (LwS.mk s9.σ s9.υ s9.ς s9.hs s9.ep s9.fc s9.ml 0 s9.nx s9.ct s9.nb s9.n s9.LN s9.CM s9.ρ s9.x s9.x0 s9.f s9.gk s9.g1 s9.g2 s9.g3 s9.fb s9.fB s9.fA s9.fV s9.fP s9.fO s9.g (fun _ => vL (mB s9.σ j)) s9.fd) := ⟨_, rfl⟩
      refine lv_aload_n hx hb dL_law_1435 rfl (lv_at hl 4 rfl) ?_
      refine lv_aload_n hx hb dL_law_1436 rfl (lv_at hl 5 rfl) ?_
      refine lv_iload hx hb dL_law_1437 (lv_at hl 0 rfl) ?_
      refine lv_iconst (v := 1) hx hb dL_law_1439 (by decide) ?_
      refine lv_iadd hx hb dL_law_1440 ?_
      refine m_sld (v := nI j) hx hb hC.hX hC.hbl hC.hbA hS (k := 4 * q + 1) (m_add rfl rfl) (by omega) hC.hL e1 dL_law_1441 ?_
      refine lv_aload_n hx hb dL_law_1442 rfl (lv_at hl 2 rfl) ?_
      refine lw_w (mc := 0) (ms := 0) (Wc := (LCh cy a s9 s9)) (Wn := (LCh cy a S9 s9)) hC (w_isMember_ok l G cy kS vS a.aX a.na a.tr a.sn s9.hs a.hi a.sc s9.ep s9.fc a.ob s9.σ j a.oA s9.fo hI.1.1 hj) (vx_cwSW 3 hC.S9.2.2.2.2 gL_law_L_isMember rfl rfl rfl (by decide +kernel) ⟨Nat.le_of_ble_eq_true rfl, Nat.le_of_ble_eq_true rfl⟩) [0, 1, 24] rfl (by decide) (SameL.cons SameA.rf (SameL.cons SameA.rf (SameL.cons SameA.one SameL.nil))) (by subst eS; rfl) hP hD hS rfl hl.1 rfl (Nat.le_of_ble_eq_true rfl) ⟨hc0, hs0⟩ dL_law_1443 (fun H locs hP hD hS => ?_)
      refine lv_istore (lv' := [(6, .int 0), (5, .int (nI (4 * q))), (4, .ref a.oD), (3, .ref a.oA), (2, .ref a.am), (1, .ref a.aX), (0, .ref b)]) hx hb dL_law_1446 hl (by decide) rfl (fun ls hl => ?_)
      refine lv_aload_n hx hb dL_law_1448 rfl (lv_at hl 4 rfl) ?_
      refine lv_aload_n hx hb dL_law_1449 rfl (lv_at hl 6 rfl) ?_
      refine lv_iload hx hb dL_law_1450 (lv_at hl 1 rfl) ?_
      refine lv_iconst (v := 1) hx hb dL_law_1452 (by decide) ?_
      refine lv_iadd hx hb dL_law_1453 ?_
      refine m_sld (v := nI j) hx hb hC.hX hC.hbl hC.hbA hS (k := 4 * q + 1) (m_add rfl rfl) (by omega) hC.hL e1 dL_law_1454 ?_
      refine lw_m (s1 := S9) (t1 := s9) (Wn := (LCh cy a S9 S9)) hC (c_X8_isMember_ok l G cy a.am a.aS a.aBf a.aAs a.aSv a.aPa a.aOu a.aTx a.aCo s9.ct s9.nb s9.LN ((s9.x0).1) s9.CM s9.hs s9.th (bI (s9.x0).2) s9.ep s9.fc s9.σ j hI.1.1 hj) (cwV 1 hC.S9.2.2.2.2 gL_law_X8_isMember rfl rfl rfl (by decide +kernel) ⟨Nat.le_of_ble_eq_true rfl, Nat.le_of_ble_eq_true rfl⟩) [15, 16] rfl (by decide) (SameR.cons (SameR.cons SameR.nil)) (by subst eS; rfl) hP hD hS rfl hl.1 rfl (Nat.le_of_ble_eq_true rfl) ⟨hcn, hsn⟩ dL_law_1455 (fun H locs hP hD hS => ?_)
      refine lv_istore (lv' := [(7, .int (mB s9.σ j)), (6, .int 0), (5, .int (nI (4 * q))), (4, .ref a.oD), (3, .ref a.oA), (2, .ref a.am), (1, .ref a.aX), (0, .ref b)]) hx hb dL_law_1458 hl (by decide) rfl (fun ls hl => ?_)
      refine lv_aload_n hx hb dL_law_1460 rfl (lv_at hl 5 rfl) ?_
      refine lw_thrown (s1 := S9) (t1 := S9) (k := 0) hC hP (by subst eS; rfl) hl.1 (Nat.le_of_ble_eq_true rfl) ⟨hcn, hsn⟩ dL_law_1461 ?_
      refine lv_iload hx hb dL_law_1464 (lv_at hl 1 rfl) ?_
      refine lv_icmp_eq (tgt := 1471) hx hb dL_law_1466 (by decide) (fun c_1466 => ?_) (fun c_1466 => ?_)
      rotate_left
      · exact absurd c_1466 (by decide)
      refine lv_iload hx hb dL_law_1471 (lv_at hl 1 rfl) ?_
      refine lv_if_ne (tgt := 1495) hx hb dL_law_1473 (by decide) (fun c_1473 => ?_) (fun c_1473 => ?_)
      · exact absurd c_1473 (by decide)
      refine lv_aload_n hx hb dL_law_1476 rfl (lv_at hl 4 rfl) ?_
      refine lv_iconst (v := 0) hx hb dL_law_1477 (by decide) ?_
      refine lw_ldL (s1 := S9) (t1 := S9) (x := vL (mB s9.σ j)) hC hP (by subst eS; rfl) dL_law_1478 ?_
      refine lv_iload hx hb dL_law_1479 (lv_at hl 0 rfl) ?_
      refine lv_if_eq (tgt := 1488) hx hb dL_law_1481 (by decide) (fun c_1481 => ?_) (fun c_1481 => ?_)
      · exact absurd c_1481 hz
      refine lv_lconst (v := 1) hx hb dL_law_1484 (by decide) ?_
      refine lv_goto (tgt := 1489) hx hb dL_law_1485 (by decide) ?_
      refine m_lcmp0 hx hb (if_neg hz) dL_law_1489 ?_
      refine lv_if_eq (tgt := 1495) hx hb dL_law_1490 (by decide) (fun c_1490 => ?_) (fun c_1490 => ?_)
      rotate_left
      · exact absurd c_1490 (by decide)
      refine lv_goto (tgt := 2890) hx hb dL_law_1495 (by decide) ?_
      refine W.widen (k := cells + 1) (n := slots + 6) (by omega) (by omega) ?_
      exact kk S9 H locs ls (LI.of (LI.mono hI (by omega)) (by subst eS; rfl) (by subst eS; rfl) (by subst eS; rfl) (by subst eS; rfl) (by subst eS; rfl) (by subst eS; rfl) (by subst eS; rfl) (by subst eS; rfl) (by subst eS; rfl) (by subst eS; rfl) (by subst eS; rfl) (by subst eS; rfl) (by subst eS; rfl) (by subst eS; rfl) (by subst eS; rfl)) hP hD hS (lv_sub hl [2, 3, 4, 5, 6, 7] rfl)
  · obtain ⟨S9, eS⟩ : ∃ z : LwS, z = (LwS.mk s9.σ s9.υ s9.ς s9.hs s9.ep s9.fc s9.ml 1 s9.nx s9.ct s9.nb s9.n s9.LN s9.CM s9.ρ s9.x s9.x0 s9.f s9.gk s9.g1 s9.g2 s9.g3 s9.fb s9.fB s9.fA s9.fV s9.fP s9.fO s9.g s9.fo s9.fd) := ⟨_, rfl⟩
    refine lv_aload_n hx hb dL_law_1435 rfl (lv_at hl 4 rfl) ?_
    refine lv_aload_n hx hb dL_law_1436 rfl (lv_at hl 5 rfl) ?_
    refine lv_iload hx hb dL_law_1437 (lv_at hl 0 rfl) ?_
    refine lv_iconst (v := 1) hx hb dL_law_1439 (by decide) ?_
    refine lv_iadd hx hb dL_law_1440 ?_
    refine m_sld (v := xs (4 * q + 1)) hx hb hC.hX hC.hbl hC.hbA hS (k := 4 * q + 1) (m_add rfl rfl) (by omega) hC.hL rfl dL_law_1441 ?_
    refine lv_aload_n hx hb dL_law_1442 rfl (lv_at hl 2 rfl) ?_
    refine lw_w (mc := 1) (ms := 6) (Wc := (LCh cy a s9 s9)) (Wn := (LCh cy a S9 s9)) hC (w_isMember_1 l G cy kS vS a.aX a.na a.tr a.sn s9.hs a.hi a.sc s9.ep s9.fc a.ob s9.σ (xs (4 * q + 1)) a.oA s9.fo hC.hl9 hI.1.1 hF) (vx_cwSW 3 hC.S9.2.2.2.2 gL_law_L_isMember rfl rfl rfl (by decide +kernel) ⟨Nat.le_of_ble_eq_true rfl, Nat.le_of_ble_eq_true rfl⟩) [0, 1, 24] rfl (by decide) (SameL.cons SameA.rf (SameL.cons SameA.rf (SameL.cons SameA.rf SameL.nil))) (by subst eS; rfl) hP hD hS rfl hl.1 rfl (Nat.le_of_ble_eq_true rfl) ⟨hc1, hs1⟩ dL_law_1443 (fun H locs hP hD hS => ?_)
    refine lv_istore (lv' := [(6, .int 1), (5, .int (nI (4 * q))), (4, .ref a.oD), (3, .ref a.oA), (2, .ref a.am), (1, .ref a.aX), (0, .ref b)]) hx hb dL_law_1446 hl (by decide) rfl (fun ls hl => ?_)
    refine lv_aload_n hx hb dL_law_1448 rfl (lv_at hl 4 rfl) ?_
    refine lv_aload_n hx hb dL_law_1449 rfl (lv_at hl 6 rfl) ?_
    refine lv_iload hx hb dL_law_1450 (lv_at hl 1 rfl) ?_
    refine lv_iconst (v := 1) hx hb dL_law_1452 (by decide) ?_
    refine lv_iadd hx hb dL_law_1453 ?_
    refine m_sld (v := xs (4 * q + 1)) hx hb hC.hX hC.hbl hC.hbA hS (k := 4 * q + 1) (m_add rfl rfl) (by omega) hC.hL rfl dL_law_1454 ?_
    refine lw_m (s1 := S9) (t1 := s9) (Wn := (LCh cy a S9 S9)) hC (c_X8_isMember_no l G cy a.am a.aS a.aBf a.aAs a.aSv a.aPa a.aOu a.aTx a.aCo s9.ct s9.nb s9.LN ((s9.x0).1) s9.CM s9.hs s9.th (bI (s9.x0).2) s9.ep s9.fc s9.σ (xs (4 * q + 1)) hI.1.1 hF) (cwV 1 hC.S9.2.2.2.2 gL_law_X8_isMember rfl rfl rfl (by decide +kernel) ⟨Nat.le_of_ble_eq_true rfl, Nat.le_of_ble_eq_true rfl⟩) [15, 16] rfl (by decide) (SameR.cons (SameR.cons SameR.nil)) (by subst eS; rfl) hP hD hS rfl hl.1 rfl (Nat.le_of_ble_eq_true rfl) ⟨hc1, hs1⟩ dL_law_1455 (fun H locs hP hD hS => ?_)
    refine lv_istore (lv' := [(7, .int 0), (6, .int 1), (5, .int (nI (4 * q))), (4, .ref a.oD), (3, .ref a.oA), (2, .ref a.am), (1, .ref a.aX), (0, .ref b)]) hx hb dL_law_1458 hl (by decide) rfl (fun ls hl => ?_)
    refine lv_aload_n hx hb dL_law_1460 rfl (lv_at hl 5 rfl) ?_
    refine lw_thrown (s1 := S9) (t1 := S9) (k := 1) hC hP (by subst eS; rfl) hl.1 (Nat.le_of_ble_eq_true rfl) ⟨hc1, hs1⟩ dL_law_1461 ?_
    refine lv_iload hx hb dL_law_1464 (lv_at hl 1 rfl) ?_
    refine lv_icmp_eq (tgt := 1471) hx hb dL_law_1466 (by decide) (fun c_1466 => ?_) (fun c_1466 => ?_)
    rotate_left
    · exact absurd c_1466 (by decide)
    refine lv_iload hx hb dL_law_1471 (lv_at hl 1 rfl) ?_
    refine lv_if_ne (tgt := 1495) hx hb dL_law_1473 (by decide) (fun c_1473 => ?_) (fun c_1473 => ?_)
    rotate_left
    · exact absurd c_1473 (by decide)
    refine lv_goto (tgt := 2890) hx hb dL_law_1495 (by decide) ?_
    exact kk S9 H locs ls (LI.of (LI.mono hI (by omega)) (by subst eS; rfl) (by subst eS; rfl) (by subst eS; rfl) (by subst eS; rfl) (by subst eS; rfl) (by subst eS; rfl) (by subst eS; rfl) (by subst eS; rfl) (by subst eS; rfl) (by subst eS; rfl) (by subst eS; rfl) (by subst eS; rfl) (by subst eS; rfl) (by subst eS; rfl) (by subst eS; rfl)) hP hD hS (lv_sub hl [2, 3, 4, 5, 6, 7] rfl)

set_option maxRecDepth 100000 in
set_option maxHeartbeats 4000000 in
theorem case_19 {p : Program} {l : Launch} {e : Env} {s : State} {m : MethodId} {below : List Frame} {meth : Method} {cq : Code} {G : va_G} {cy : Nat → ClassId} {kS vS : Nat → Nat} {A : Nat → Prop} {a : LA} {b L q : Nat} {xs : Nat → Int32} {Q : State → Prop} {n0 cells slots : Nat} (hC : LC l p s m meth cq G cy kS vS A b L xs) (hq : 4 * q + 4 ≤ L) (hn0 : n0 < 1000000) (hc1 : cells + 1 ≤ room_1.cells) (hs1 : slots + 6 ≤ room_1.slots) (kk : LGo p l e s m below meth cq G cy A a b q Q (n0 + 300) (cells + 1) (slots + 6) 2890) : LGo p l e s m below meth cq G cy A a b q Q n0 cells slots 1498 := by
  intro s9 H locs ls hI hP hD hS hl
  obtain ⟨hx, hb, hml, hown, hts⟩ := id hC.S9
  have hL9 := hC.hL
  have hc0 : cells + 0 ≤ room_1.cells := Nat.le_of_succ_le hc1
  have hcn : cells ≤ room_1.cells := Nat.le_of_succ_le hc1
  have hs0 : slots + 0 ≤ room_1.slots := Nat.le_trans (Nat.le_add_right slots 6) hs1
  have hsn : slots ≤ room_1.slots := Nat.le_trans (Nat.le_add_right slots 6) hs1
  have ho := hI.1.1
  have hN0 := ho.1
  have hM0 := ho.2.1
  have hE0 := ho.2.2.1
  have hnx := hI.2.2.2.2.1
  have hct := hI.2.2.2.2.2.1
  obtain ⟨S9, eS⟩ : ∃ z : LwS, z = (LwS.mk s9.σ s9.υ s9.ς s9.hs s9.ep s9.fc s9.ml 0 s9.nx s9.ct s9.nb s9.n s9.LN s9.CM s9.ρ s9.x s9.x0 s9.f s9.gk s9.g1 s9.g2 s9.g3 s9.fb s9.fB s9.fA s9.fV s9.fP s9.fO s9.g s9.fo s9.fd) := ⟨_, rfl⟩
  refine lv_aload_n hx hb dL_law_1498 rfl (lv_at hl 4 rfl) ?_
  refine c_roVi hC.S9 (c_X7_memberCount l G cy a.aX a.na a.tr a.sn s9.hs a.hi a.sc s9.ep s9.fc a.ob s9.σ hI.1.1) (cwV 0 hC.S9.2.2.2.2 gL_law_X7_memberCount rfl rfl rfl (by decide +kernel) ⟨Nat.le_of_ble_eq_true rfl, Nat.le_of_ble_eq_true rfl⟩) PB.blind (va_recv hC.hK.1 hP (ci := 11) (q0 := offs (LCh cy a s9 s9) 0 + 0) rfl ((fl_at (Wc := (LCh cy a s9 s9)) (j := 0) (i := 0) (c := [(a.aX, .inr (11, [.ref (a.na 0), .ref (a.tr 0), .ref (a.sn 0), .int s9.hs, .ref a.hi, .ref a.sc, .int s9.ep, .int s9.fc, .ref a.ob]))]) rfl (Nat.le_of_ble_eq_true rfl)).trans rfl)) (PB.at hC.hK (PpartC (Wc := (LCh cy a s9 s9)) (cs := [[(a.aX, .inr (11, [.ref (a.na 0), .ref (a.tr 0), .ref (a.sn 0), .int s9.hs, .ref a.hi, .ref a.sc, .int s9.ep, .int s9.fc, .ref a.ob]))], sWd cy a.na s9.σ]) hP [0, 1] rfl)) rfl hl.1 rfl (Nat.le_of_ble_eq_true rfl) ⟨hcn, hsn⟩ dL_law_1499 ?_
  refine lv_aload_n hx hb dL_law_1502 rfl (lv_at hl 3 rfl) ?_
  refine lw_m (s1 := s9) (t1 := s9) (Wn := (LCh cy a s9 S9)) hC (c_X8_memberCount l G cy a.am a.aS a.aBf a.aAs a.aSv a.aPa a.aOu a.aTx a.aCo s9.ct s9.nb s9.LN ((s9.x0).1) s9.CM s9.hs s9.th (bI (s9.x0).2) s9.ep s9.fc s9.σ hI.1.1) (cwV 0 hC.S9.2.2.2.2 gL_law_X8_memberCount rfl rfl rfl (by decide +kernel) ⟨Nat.le_of_ble_eq_true rfl, Nat.le_of_ble_eq_true rfl⟩) [15, 16] rfl (by decide) (SameR.cons (SameR.cons SameR.nil)) (by subst eS; rfl) hP hD hS rfl hl.1 rfl (Nat.le_of_ble_eq_true rfl) ⟨hcn, hsn⟩ dL_law_1503 (fun H locs hP hD hS => ?_)
  refine lv_icmp_eq (tgt := 2890) hx hb dL_law_1506 (by decide) (fun c_1506 => ?_) (fun c_1506 => ?_)
  rotate_left
  · exact absurd rfl c_1506
  have hP : va_P G vwCl (fl (LCh cy a S9 S9)) H := by rw [LCh.left (s := s9) (by subst eS; rfl) (by subst eS; rfl) (by subst eS; rfl) (by subst eS; rfl) (by subst eS; rfl) (by subst eS; rfl) (by subst eS; rfl) (by subst eS; rfl) (by subst eS; rfl) (by subst eS; rfl) (by subst eS; rfl) (by subst eS; rfl) (by subst eS; rfl) (by subst eS; rfl) (by subst eS; rfl) (by subst eS; rfl) (by subst eS; rfl) (by subst eS; rfl) (by subst eS; rfl) (by subst eS; rfl) (by subst eS; rfl) (by subst eS; rfl)]; exact hP
  have hD : va_D A (fl (LCh cy a S9 S9)) := by rw [LCh.left (s := s9) (by subst eS; rfl) (by subst eS; rfl) (by subst eS; rfl) (by subst eS; rfl) (by subst eS; rfl) (by subst eS; rfl) (by subst eS; rfl) (by subst eS; rfl) (by subst eS; rfl) (by subst eS; rfl) (by subst eS; rfl) (by subst eS; rfl) (by subst eS; rfl) (by subst eS; rfl) (by subst eS; rfl) (by subst eS; rfl) (by subst eS; rfl) (by subst eS; rfl) (by subst eS; rfl) (by subst eS; rfl) (by subst eS; rfl) (by subst eS; rfl)]; exact hD
  refine W.widen (k := cells + 1) (n := slots + 6) (by omega) (by omega) ?_
  exact kk S9 H locs ls (LI.of (LI.mono hI (by omega)) (by subst eS; rfl) (by subst eS; rfl) (by subst eS; rfl) (by subst eS; rfl) (by subst eS; rfl) (by subst eS; rfl) (by subst eS; rfl) (by subst eS; rfl) (by subst eS; rfl) (by subst eS; rfl) (by subst eS; rfl) (by subst eS; rfl) (by subst eS; rfl) (by subst eS; rfl) (by subst eS; rfl)) hP hD hS (lv_sub hl [0, 1, 2, 3, 4, 5] rfl)

set_option maxRecDepth 100000 in
set_option maxHeartbeats 4000000 in
theorem case_20 {p : Program} {l : Launch} {e : Env} {s : State} {m : MethodId} {below : List Frame} {meth : Method} {cq : Code} {G : va_G} {cy : Nat → ClassId} {kS vS : Nat → Nat} {A : Nat → Prop} {a : LA} {b L q : Nat} {xs : Nat → Int32} {Q : State → Prop} {n0 cells slots : Nat} (hC : LC l p s m meth cq G cy kS vS A b L xs) (hq : 4 * q + 4 ≤ L) (hn0 : n0 < 1000000) (hc1 : cells + 1 ≤ room_1.cells) (hs1 : slots + 6 ≤ room_1.slots) (kk : LGo p l e s m below meth cq G cy A a b q Q (n0 + 300) (cells + 1) (slots + 6) 2890) : LGo p l e s m below meth cq G cy A a b q Q n0 cells slots 1511 := by
  intro s9 H locs ls hI hP hD hS hl
  obtain ⟨hx, hb, hml, hown, hts⟩ := id hC.S9
  have hL9 := hC.hL
  have hc0 : cells + 0 ≤ room_1.cells := Nat.le_of_succ_le hc1
  have hcn : cells ≤ room_1.cells := Nat.le_of_succ_le hc1
  have hs0 : slots + 0 ≤ room_1.slots := Nat.le_trans (Nat.le_add_right slots 6) hs1
  have hsn : slots ≤ room_1.slots := Nat.le_trans (Nat.le_add_right slots 6) hs1
  have ho := hI.1.1
  have hN0 := ho.1
  have hM0 := ho.2.1
  have hE0 := ho.2.2.1
  have hnx := hI.2.2.2.2.1
  have hct := hI.2.2.2.2.2.1
  obtain ⟨S9, eS⟩ : ∃ z : LwS, z = (LwS.mk s9.σ s9.υ s9.ς s9.hs s9.ep s9.fc s9.ml 0 s9.nx s9.ct s9.nb s9.n s9.LN s9.CM s9.ρ s9.x s9.x0 s9.f s9.gk s9.g1 s9.g2 s9.g3 s9.fb s9.fB s9.fA s9.fV s9.fP s9.fO s9.g s9.fo s9.fd) := ⟨_, rfl⟩
  refine lv_aload_n hx hb dL_law_1511 rfl (lv_at hl 4 rfl) ?_
  refine c_roVi hC.S9 (c_X7_leagueHeat l G cy a.aX a.na a.tr a.sn s9.hs a.hi a.sc s9.ep s9.fc a.ob s9.σ hI.1.1) (cwV 0 hC.S9.2.2.2.2 gL_law_X7_leagueHeat rfl rfl rfl (by decide +kernel) ⟨Nat.le_of_ble_eq_true rfl, Nat.le_of_ble_eq_true rfl⟩) PB.blind (va_recv hC.hK.1 hP (ci := 11) (q0 := offs (LCh cy a s9 s9) 0 + 0) rfl ((fl_at (Wc := (LCh cy a s9 s9)) (j := 0) (i := 0) (c := [(a.aX, .inr (11, [.ref (a.na 0), .ref (a.tr 0), .ref (a.sn 0), .int s9.hs, .ref a.hi, .ref a.sc, .int s9.ep, .int s9.fc, .ref a.ob]))]) rfl (Nat.le_of_ble_eq_true rfl)).trans rfl)) (PB.at hC.hK (PpartC (Wc := (LCh cy a s9 s9)) (cs := [[(a.aX, .inr (11, [.ref (a.na 0), .ref (a.tr 0), .ref (a.sn 0), .int s9.hs, .ref a.hi, .ref a.sc, .int s9.ep, .int s9.fc, .ref a.ob]))], sWd cy a.na s9.σ]) hP [0, 1] rfl)) rfl hl.1 rfl (Nat.le_of_ble_eq_true rfl) ⟨hcn, hsn⟩ dL_law_1512 ?_
  refine lv_aload_n hx hb dL_law_1515 rfl (lv_at hl 3 rfl) ?_
  refine lw_m (s1 := s9) (t1 := s9) (Wn := (LCh cy a s9 S9)) hC (c_X8_leagueHeat l G cy a.am a.aS a.aBf a.aAs a.aSv a.aPa a.aOu a.aTx a.aCo s9.ct s9.nb s9.LN ((s9.x0).1) s9.CM s9.hs s9.th (bI (s9.x0).2) s9.ep s9.fc s9.σ hI.1.1) (cwV 0 hC.S9.2.2.2.2 gL_law_X8_leagueHeat rfl rfl rfl (by decide +kernel) ⟨Nat.le_of_ble_eq_true rfl, Nat.le_of_ble_eq_true rfl⟩) [15, 16] rfl (by decide) (SameR.cons (SameR.cons SameR.nil)) (by subst eS; rfl) hP hD hS rfl hl.1 rfl (Nat.le_of_ble_eq_true rfl) ⟨hcn, hsn⟩ dL_law_1516 (fun H locs hP hD hS => ?_)
  refine lv_icmp_eq (tgt := 2890) hx hb dL_law_1519 (by decide) (fun c_1519 => ?_) (fun c_1519 => ?_)
  rotate_left
  · exact absurd rfl c_1519
  have hP : va_P G vwCl (fl (LCh cy a S9 S9)) H := by rw [LCh.left (s := s9) (by subst eS; rfl) (by subst eS; rfl) (by subst eS; rfl) (by subst eS; rfl) (by subst eS; rfl) (by subst eS; rfl) (by subst eS; rfl) (by subst eS; rfl) (by subst eS; rfl) (by subst eS; rfl) (by subst eS; rfl) (by subst eS; rfl) (by subst eS; rfl) (by subst eS; rfl) (by subst eS; rfl) (by subst eS; rfl) (by subst eS; rfl) (by subst eS; rfl) (by subst eS; rfl) (by subst eS; rfl) (by subst eS; rfl) (by subst eS; rfl)]; exact hP
  have hD : va_D A (fl (LCh cy a S9 S9)) := by rw [LCh.left (s := s9) (by subst eS; rfl) (by subst eS; rfl) (by subst eS; rfl) (by subst eS; rfl) (by subst eS; rfl) (by subst eS; rfl) (by subst eS; rfl) (by subst eS; rfl) (by subst eS; rfl) (by subst eS; rfl) (by subst eS; rfl) (by subst eS; rfl) (by subst eS; rfl) (by subst eS; rfl) (by subst eS; rfl) (by subst eS; rfl) (by subst eS; rfl) (by subst eS; rfl) (by subst eS; rfl) (by subst eS; rfl) (by subst eS; rfl) (by subst eS; rfl)]; exact hD
  refine W.widen (k := cells + 1) (n := slots + 6) (by omega) (by omega) ?_
  exact kk S9 H locs ls (LI.of (LI.mono hI (by omega)) (by subst eS; rfl) (by subst eS; rfl) (by subst eS; rfl) (by subst eS; rfl) (by subst eS; rfl) (by subst eS; rfl) (by subst eS; rfl) (by subst eS; rfl) (by subst eS; rfl) (by subst eS; rfl) (by subst eS; rfl) (by subst eS; rfl) (by subst eS; rfl) (by subst eS; rfl) (by subst eS; rfl)) hP hD hS (lv_sub hl [0, 1, 2, 3, 4, 5] rfl)

set_option maxRecDepth 100000 in
set_option maxHeartbeats 4000000 in
theorem case_21 {p : Program} {l : Launch} {e : Env} {s : State} {m : MethodId} {below : List Frame} {meth : Method} {cq : Code} {G : va_G} {cy : Nat → ClassId} {kS vS : Nat → Nat} {A : Nat → Prop} {a : LA} {b L q : Nat} {xs : Nat → Int32} {Q : State → Prop} {n0 cells slots : Nat} (hC : LC l p s m meth cq G cy kS vS A b L xs) (hq : 4 * q + 4 ≤ L) (hn0 : n0 < 1000000) (hc1 : cells + 1 ≤ room_1.cells) (hs1 : slots + 6 ≤ room_1.slots) (kk : LGo p l e s m below meth cq G cy A a b q Q (n0 + 300) (cells + 1) (slots + 6) 2890) : LGo p l e s m below meth cq G cy A a b q Q n0 cells slots 1524 := by
  intro s9 H locs ls hI hP hD hS hl
  obtain ⟨hx, hb, hml, hown, hts⟩ := id hC.S9
  have hL9 := hC.hL
  have hc0 : cells + 0 ≤ room_1.cells := Nat.le_of_succ_le hc1
  have hcn : cells ≤ room_1.cells := Nat.le_of_succ_le hc1
  have hs0 : slots + 0 ≤ room_1.slots := Nat.le_trans (Nat.le_add_right slots 6) hs1
  have hsn : slots ≤ room_1.slots := Nat.le_trans (Nat.le_add_right slots 6) hs1
  have ho := hI.1.1
  have hN0 := ho.1
  have hM0 := ho.2.1
  have hE0 := ho.2.2.1
  have hnx := hI.2.2.2.2.1
  have hct := hI.2.2.2.2.2.1
  obtain ⟨S9, eS⟩ : ∃ z : LwS, z = (LwS.mk s9.σ s9.υ s9.ς s9.hs s9.ep s9.fc s9.ml 0 s9.nx s9.ct s9.nb s9.n s9.LN s9.CM s9.ρ s9.x s9.x0 s9.f s9.gk s9.g1 s9.g2 s9.g3 s9.fb s9.fB s9.fA s9.fV s9.fP s9.fO s9.g s9.fo s9.fd) := ⟨_, rfl⟩
  refine lv_aload_n hx hb dL_law_1524 rfl (lv_at hl 4 rfl) ?_
  refine c_roVi hC.S9 (c_X7_leagueHeatByOthers l G cy a.aX a.na a.tr a.sn s9.hs a.hi a.sc s9.ep s9.fc a.ob s9.σ hI.1.1) (cwV 0 hC.S9.2.2.2.2 gL_law_X7_leagueHeatByOthers rfl rfl rfl (by decide +kernel) ⟨Nat.le_of_ble_eq_true rfl, Nat.le_of_ble_eq_true rfl⟩) PB.blind (va_recv hC.hK.1 hP (ci := 11) (q0 := offs (LCh cy a s9 s9) 0 + 0) rfl ((fl_at (Wc := (LCh cy a s9 s9)) (j := 0) (i := 0) (c := [(a.aX, .inr (11, [.ref (a.na 0), .ref (a.tr 0), .ref (a.sn 0), .int s9.hs, .ref a.hi, .ref a.sc, .int s9.ep, .int s9.fc, .ref a.ob]))]) rfl (Nat.le_of_ble_eq_true rfl)).trans rfl)) (PB.at hC.hK (PpartC (Wc := (LCh cy a s9 s9)) (cs := [[(a.aX, .inr (11, [.ref (a.na 0), .ref (a.tr 0), .ref (a.sn 0), .int s9.hs, .ref a.hi, .ref a.sc, .int s9.ep, .int s9.fc, .ref a.ob]))], sWd cy a.na s9.σ]) hP [0, 1] rfl)) rfl hl.1 rfl (Nat.le_of_ble_eq_true rfl) ⟨hcn, hsn⟩ dL_law_1525 ?_
  refine lv_aload_n hx hb dL_law_1528 rfl (lv_at hl 3 rfl) ?_
  refine lw_m (s1 := s9) (t1 := s9) (Wn := (LCh cy a s9 S9)) hC (c_X8_leagueHeatByOthers l G cy a.am a.aS a.aBf a.aAs a.aSv a.aPa a.aOu a.aTx a.aCo s9.ct s9.nb s9.LN ((s9.x0).1) s9.CM s9.hs s9.th (bI (s9.x0).2) s9.ep s9.fc s9.σ hI.1.1) (cwV 0 hC.S9.2.2.2.2 gL_law_X8_leagueHeatByOthers rfl rfl rfl (by decide +kernel) ⟨Nat.le_of_ble_eq_true rfl, Nat.le_of_ble_eq_true rfl⟩) [15, 16] rfl (by decide) (SameR.cons (SameR.cons SameR.nil)) (by subst eS; rfl) hP hD hS rfl hl.1 rfl (Nat.le_of_ble_eq_true rfl) ⟨hcn, hsn⟩ dL_law_1529 (fun H locs hP hD hS => ?_)
  refine lv_icmp_eq (tgt := 2890) hx hb dL_law_1532 (by decide) (fun c_1532 => ?_) (fun c_1532 => ?_)
  rotate_left
  · exact absurd (sum_M _ _ _).symm c_1532
  have hP : va_P G vwCl (fl (LCh cy a S9 S9)) H := by rw [LCh.left (s := s9) (by subst eS; rfl) (by subst eS; rfl) (by subst eS; rfl) (by subst eS; rfl) (by subst eS; rfl) (by subst eS; rfl) (by subst eS; rfl) (by subst eS; rfl) (by subst eS; rfl) (by subst eS; rfl) (by subst eS; rfl) (by subst eS; rfl) (by subst eS; rfl) (by subst eS; rfl) (by subst eS; rfl) (by subst eS; rfl) (by subst eS; rfl) (by subst eS; rfl) (by subst eS; rfl) (by subst eS; rfl) (by subst eS; rfl) (by subst eS; rfl)]; exact hP
  have hD : va_D A (fl (LCh cy a S9 S9)) := by rw [LCh.left (s := s9) (by subst eS; rfl) (by subst eS; rfl) (by subst eS; rfl) (by subst eS; rfl) (by subst eS; rfl) (by subst eS; rfl) (by subst eS; rfl) (by subst eS; rfl) (by subst eS; rfl) (by subst eS; rfl) (by subst eS; rfl) (by subst eS; rfl) (by subst eS; rfl) (by subst eS; rfl) (by subst eS; rfl) (by subst eS; rfl) (by subst eS; rfl) (by subst eS; rfl) (by subst eS; rfl) (by subst eS; rfl) (by subst eS; rfl) (by subst eS; rfl)]; exact hD
  refine W.widen (k := cells + 1) (n := slots + 6) (by omega) (by omega) ?_
  exact kk S9 H locs ls (LI.of (LI.mono hI (by omega)) (by subst eS; rfl) (by subst eS; rfl) (by subst eS; rfl) (by subst eS; rfl) (by subst eS; rfl) (by subst eS; rfl) (by subst eS; rfl) (by subst eS; rfl) (by subst eS; rfl) (by subst eS; rfl) (by subst eS; rfl) (by subst eS; rfl) (by subst eS; rfl) (by subst eS; rfl) (by subst eS; rfl)) hP hD hS (lv_sub hl [0, 1, 2, 3, 4, 5] rfl)

set_option maxRecDepth 100000 in
set_option maxHeartbeats 4000000 in
theorem case_22 {p : Program} {l : Launch} {e : Env} {s : State} {m : MethodId} {below : List Frame} {meth : Method} {cq : Code} {G : va_G} {cy : Nat → ClassId} {kS vS : Nat → Nat} {A : Nat → Prop} {a : LA} {b L q : Nat} {xs : Nat → Int32} {Q : State → Prop} {n0 cells slots : Nat} (hC : LC l p s m meth cq G cy kS vS A b L xs) (hq : 4 * q + 4 ≤ L) (hn0 : n0 < 1000000) (hc1 : cells + 1 ≤ room_1.cells) (hs1 : slots + 6 ≤ room_1.slots) (kk : LGo p l e s m below meth cq G cy A a b q Q (n0 + 300) (cells + 1) (slots + 6) 2890) : LGo p l e s m below meth cq G cy A a b q Q n0 cells slots 1537 := by
  intro s9 H locs ls hI hP hD hS hl
  obtain ⟨hx, hb, hml, hown, hts⟩ := id hC.S9
  have hL9 := hC.hL
  have hc0 : cells + 0 ≤ room_1.cells := Nat.le_of_succ_le hc1
  have hcn : cells ≤ room_1.cells := Nat.le_of_succ_le hc1
  have hs0 : slots + 0 ≤ room_1.slots := Nat.le_trans (Nat.le_add_right slots 6) hs1
  have hsn : slots ≤ room_1.slots := Nat.le_trans (Nat.le_add_right slots 6) hs1
  have ho := hI.1.1
  have hN0 := ho.1
  have hM0 := ho.2.1
  have hE0 := ho.2.2.1
  have hnx := hI.2.2.2.2.1
  have hct := hI.2.2.2.2.2.1
  cases hO : hotO (vB s9.σ) (hB s9.σ) (mB s9.σ) (nB s9.σ) with
  | none =>
    obtain ⟨S9, eS⟩ : ∃ z : LwS, z = (LwS.mk s9.σ s9.υ s9.ς s9.hs s9.ep s9.fc s9.ml 1 s9.nx s9.ct s9.nb s9.n s9.LN s9.CM s9.ρ s9.x s9.x0 s9.f s9.gk s9.g1 s9.g2 s9.g3 s9.fb s9.fB s9.fA s9.fV s9.fP s9.fO s9.g s9.fo s9.fd) := ⟨_, rfl⟩
    refine lv_aload_n hx hb dL_law_1537 rfl (lv_at hl 4 rfl) ?_
    refine lv_aload_n hx hb dL_law_1538 rfl (lv_at hl 2 rfl) ?_
    refine lw_w (mc := 1) (ms := 6) (Wc := (LCh cy a s9 s9)) (Wn := (LCh cy a S9 s9)) hC (w_warmestMember_t l G cy kS vS a.aX a.na a.tr a.sn s9.hs a.hi a.sc s9.ep s9.fc a.ob s9.σ a.oA s9.fo hC.hl9 hI.1.1 hO) (vx_cwSW 2 hC.S9.2.2.2.2 gL_law_L_warmestMember rfl rfl rfl (by decide +kernel) ⟨Nat.le_of_ble_eq_true rfl, Nat.le_of_ble_eq_true rfl⟩) [0, 1, 24] rfl (by decide) (SameL.cons SameA.rf (SameL.cons SameA.rf (SameL.cons SameA.rf SameL.nil))) (by subst eS; rfl) hP hD hS rfl hl.1 rfl (Nat.le_of_ble_eq_true rfl) ⟨hc1, hs1⟩ dL_law_1539 (fun H locs hP hD hS => ?_)
    refine lv_istore (lv' := [(6, .int 1), (5, .int (nI (4 * q))), (4, .ref a.oD), (3, .ref a.oA), (2, .ref a.am), (1, .ref a.aX), (0, .ref b)]) hx hb dL_law_1542 hl (by decide) rfl (fun ls hl => ?_)
    refine lv_aload_n hx hb dL_law_1544 rfl (lv_at hl 4 rfl) ?_
    refine lw_m (s1 := S9) (t1 := s9) (Wn := (LCh cy a S9 S9)) hC (c_X8_warmestMember_no l G cy a.am a.aS a.aBf a.aAs a.aSv a.aPa a.aOu a.aTx a.aCo s9.ct s9.nb s9.LN ((s9.x0).1) s9.CM s9.hs s9.th (bI (s9.x0).2) s9.ep s9.fc s9.σ hI.1.1 hI.1.bd hO) (cwV 0 hC.S9.2.2.2.2 gL_law_X8_warmestMember rfl rfl rfl (by decide +kernel) ⟨Nat.le_of_ble_eq_true rfl, Nat.le_of_ble_eq_true rfl⟩) [15, 16] rfl (by decide) (SameR.cons (SameR.cons SameR.nil)) (by subst eS; rfl) hP hD hS rfl hl.1 rfl (Nat.le_of_ble_eq_true rfl) ⟨hc1, hs1⟩ dL_law_1545 (fun H locs hP hD hS => ?_)
    refine lv_istore (lv' := [(7, .int 0), (6, .int 1), (5, .int (nI (4 * q))), (4, .ref a.oD), (3, .ref a.oA), (2, .ref a.am), (1, .ref a.aX), (0, .ref b)]) hx hb dL_law_1548 hl (by decide) rfl (fun ls hl => ?_)
    refine lv_aload_n hx hb dL_law_1550 rfl (lv_at hl 5 rfl) ?_
    refine lw_thrown (s1 := S9) (t1 := S9) (k := 1) hC hP (by subst eS; rfl) hl.1 (Nat.le_of_ble_eq_true rfl) ⟨hc1, hs1⟩ dL_law_1551 ?_
    refine lv_iload hx hb dL_law_1554 (lv_at hl 1 rfl) ?_
    refine lv_icmp_eq (tgt := 1561) hx hb dL_law_1556 (by decide) (fun c_1556 => ?_) (fun c_1556 => ?_)
    rotate_left
    · exact absurd c_1556 (by decide)
    refine lv_iload hx hb dL_law_1561 (lv_at hl 1 rfl) ?_
    refine lv_if_ne (tgt := 1578) hx hb dL_law_1563 (by decide) (fun c_1563 => ?_) (fun c_1563 => ?_)
    rotate_left
    · exact absurd c_1563 (by decide)
    refine lv_goto (tgt := 2890) hx hb dL_law_1578 (by decide) ?_
    exact kk S9 H locs ls (LI.of (LI.mono hI (by omega)) (by subst eS; rfl) (by subst eS; rfl) (by subst eS; rfl) (by subst eS; rfl) (by subst eS; rfl) (by subst eS; rfl) (by subst eS; rfl) (by subst eS; rfl) (by subst eS; rfl) (by subst eS; rfl) (by subst eS; rfl) (by subst eS; rfl) (by subst eS; rfl) (by subst eS; rfl) (by subst eS; rfl)) hP hD hS (lv_sub hl [2, 3, 4, 5, 6, 7] rfl)
  | some j =>
    obtain ⟨S9, eS⟩ : ∃ z : LwS, z = (LwS.mk s9.σ s9.υ s9.ς s9.hs s9.ep s9.fc s9.ml 0 s9.nx s9.ct s9.nb s9.n s9.LN s9.CM s9.ρ s9.x s9.x0 s9.f s9.gk s9.g1 s9.g2 s9.g3 s9.fb s9.fB s9.fA s9.fV s9.fP s9.fO s9.g (fun _ => (nI j).toInt64) s9.fd) := ⟨_, rfl⟩
    refine lv_aload_n hx hb dL_law_1537 rfl (lv_at hl 4 rfl) ?_
    refine lv_aload_n hx hb dL_law_1538 rfl (lv_at hl 2 rfl) ?_
    refine lw_w (mc := 0) (ms := 0) (Wc := (LCh cy a s9 s9)) (Wn := (LCh cy a S9 s9)) hC (w_warmestMember_ok l G cy kS vS a.aX a.na a.tr a.sn s9.hs a.hi a.sc s9.ep s9.fc a.ob s9.σ j a.oA s9.fo hI.1.1 hO) (vx_cwSW 2 hC.S9.2.2.2.2 gL_law_L_warmestMember rfl rfl rfl (by decide +kernel) ⟨Nat.le_of_ble_eq_true rfl, Nat.le_of_ble_eq_true rfl⟩) [0, 1, 24] rfl (by decide) (SameL.cons SameA.rf (SameL.cons SameA.rf (SameL.cons SameA.one SameL.nil))) (by subst eS; rfl) hP hD hS rfl hl.1 rfl (Nat.le_of_ble_eq_true rfl) ⟨hc0, hs0⟩ dL_law_1539 (fun H locs hP hD hS => ?_)
    refine lv_istore (lv' := [(6, .int 0), (5, .int (nI (4 * q))), (4, .ref a.oD), (3, .ref a.oA), (2, .ref a.am), (1, .ref a.aX), (0, .ref b)]) hx hb dL_law_1542 hl (by decide) rfl (fun ls hl => ?_)
    refine lv_aload_n hx hb dL_law_1544 rfl (lv_at hl 4 rfl) ?_
    refine lw_m (s1 := S9) (t1 := s9) (Wn := (LCh cy a S9 S9)) hC (c_X8_warmestMember_ok l G cy a.am a.aS a.aBf a.aAs a.aSv a.aPa a.aOu a.aTx a.aCo s9.ct s9.nb s9.LN ((s9.x0).1) s9.CM s9.hs s9.th (bI (s9.x0).2) s9.ep s9.fc s9.σ j hI.1.1 hI.1.bd hO) (cwV 0 hC.S9.2.2.2.2 gL_law_X8_warmestMember rfl rfl rfl (by decide +kernel) ⟨Nat.le_of_ble_eq_true rfl, Nat.le_of_ble_eq_true rfl⟩) [15, 16] rfl (by decide) (SameR.cons (SameR.cons SameR.nil)) (by subst eS; rfl) hP hD hS rfl hl.1 rfl (Nat.le_of_ble_eq_true rfl) ⟨hcn, hsn⟩ dL_law_1545 (fun H locs hP hD hS => ?_)
    refine lv_istore (lv' := [(7, .int (nI j)), (6, .int 0), (5, .int (nI (4 * q))), (4, .ref a.oD), (3, .ref a.oA), (2, .ref a.am), (1, .ref a.aX), (0, .ref b)]) hx hb dL_law_1548 hl (by decide) rfl (fun ls hl => ?_)
    refine lv_aload_n hx hb dL_law_1550 rfl (lv_at hl 5 rfl) ?_
    refine lw_thrown (s1 := S9) (t1 := S9) (k := 0) hC hP (by subst eS; rfl) hl.1 (Nat.le_of_ble_eq_true rfl) ⟨hcn, hsn⟩ dL_law_1551 ?_
    refine lv_iload hx hb dL_law_1554 (lv_at hl 1 rfl) ?_
    refine lv_icmp_eq (tgt := 1561) hx hb dL_law_1556 (by decide) (fun c_1556 => ?_) (fun c_1556 => ?_)
    rotate_left
    · exact absurd c_1556 (by decide)
    refine lv_iload hx hb dL_law_1561 (lv_at hl 1 rfl) ?_
    refine lv_if_ne (tgt := 1578) hx hb dL_law_1563 (by decide) (fun c_1563 => ?_) (fun c_1563 => ?_)
    · exact absurd c_1563 (by decide)
    refine lv_aload_n hx hb dL_law_1566 rfl (lv_at hl 4 rfl) ?_
    refine lv_iconst (v := 0) hx hb dL_law_1567 (by decide) ?_
    refine lw_ldL (s1 := S9) (t1 := S9) (x := (nI j).toInt64) hC hP (by subst eS; rfl) dL_law_1568 ?_
    refine lv_iload hx hb dL_law_1569 (lv_at hl 0 rfl) ?_
    refine lv_i2l hx hb dL_law_1571 rfl ?_
    refine m_lcmp0 hx hb rfl dL_law_1572 ?_
    refine lv_if_eq (tgt := 1578) hx hb dL_law_1573 (by decide) (fun c_1573 => ?_) (fun c_1573 => ?_)
    rotate_left
    · exact absurd c_1573 (by decide)
    refine lv_goto (tgt := 2890) hx hb dL_law_1578 (by decide) ?_
    refine W.widen (k := cells + 1) (n := slots + 6) (by omega) (by omega) ?_
    exact kk S9 H locs ls (LI.of (LI.mono hI (by omega)) (by subst eS; rfl) (by subst eS; rfl) (by subst eS; rfl) (by subst eS; rfl) (by subst eS; rfl) (by subst eS; rfl) (by subst eS; rfl) (by subst eS; rfl) (by subst eS; rfl) (by subst eS; rfl) (by subst eS; rfl) (by subst eS; rfl) (by subst eS; rfl) (by subst eS; rfl) (by subst eS; rfl)) hP hD hS (lv_sub hl [2, 3, 4, 5, 6, 7] rfl)

set_option maxRecDepth 100000 in
set_option maxHeartbeats 4000000 in
theorem case_23 {p : Program} {l : Launch} {e : Env} {s : State} {m : MethodId} {below : List Frame} {meth : Method} {cq : Code} {G : va_G} {cy : Nat → ClassId} {kS vS : Nat → Nat} {A : Nat → Prop} {a : LA} {b L q : Nat} {xs : Nat → Int32} {Q : State → Prop} {n0 cells slots : Nat} (hC : LC l p s m meth cq G cy kS vS A b L xs) (hq : 4 * q + 4 ≤ L) (hn0 : n0 < 1000000) (hc1 : cells + 1 ≤ room_1.cells) (hs1 : slots + 6 ≤ room_1.slots) (kk : LGo p l e s m below meth cq G cy A a b q Q (n0 + 300) (cells + 1) (slots + 6) 2890) : LGo p l e s m below meth cq G cy A a b q Q n0 cells slots 1581 := by
  intro s9 H locs ls hI hP hD hS hl
  obtain ⟨hx, hb, hml, hown, hts⟩ := id hC.S9
  have hL9 := hC.hL
  have hc0 : cells + 0 ≤ room_1.cells := Nat.le_of_succ_le hc1
  have hcn : cells ≤ room_1.cells := Nat.le_of_succ_le hc1
  have hs0 : slots + 0 ≤ room_1.slots := Nat.le_trans (Nat.le_add_right slots 6) hs1
  have hsn : slots ≤ room_1.slots := Nat.le_trans (Nat.le_add_right slots 6) hs1
  have ho := hI.1.1
  have hN0 := ho.1
  have hM0 := ho.2.1
  have hE0 := ho.2.2.1
  have hnx := hI.2.2.2.2.1
  have hct := hI.2.2.2.2.2.1
  cases hO : colO (vB s9.σ) (hB s9.σ) (mB s9.σ) (nB s9.σ) with
  | none =>
    obtain ⟨S9, eS⟩ : ∃ z : LwS, z = (LwS.mk s9.σ s9.υ s9.ς s9.hs s9.ep s9.fc s9.ml 1 s9.nx s9.ct s9.nb s9.n s9.LN s9.CM s9.ρ s9.x s9.x0 s9.f s9.gk s9.g1 s9.g2 s9.g3 s9.fb s9.fB s9.fA s9.fV s9.fP s9.fO s9.g s9.fo s9.fd) := ⟨_, rfl⟩
    refine lv_aload_n hx hb dL_law_1581 rfl (lv_at hl 4 rfl) ?_
    refine lv_aload_n hx hb dL_law_1582 rfl (lv_at hl 2 rfl) ?_
    refine lw_w (mc := 1) (ms := 6) (Wc := (LCh cy a s9 s9)) (Wn := (LCh cy a S9 s9)) hC (w_coldestMember_t l G cy kS vS a.aX a.na a.tr a.sn s9.hs a.hi a.sc s9.ep s9.fc a.ob s9.σ a.oA s9.fo hC.hl9 hI.1.1 hO) (vx_cwSW 2 hC.S9.2.2.2.2 gL_law_L_coldestMember rfl rfl rfl (by decide +kernel) ⟨Nat.le_of_ble_eq_true rfl, Nat.le_of_ble_eq_true rfl⟩) [0, 1, 24] rfl (by decide) (SameL.cons SameA.rf (SameL.cons SameA.rf (SameL.cons SameA.rf SameL.nil))) (by subst eS; rfl) hP hD hS rfl hl.1 rfl (Nat.le_of_ble_eq_true rfl) ⟨hc1, hs1⟩ dL_law_1583 (fun H locs hP hD hS => ?_)
    refine lv_istore (lv' := [(6, .int 1), (5, .int (nI (4 * q))), (4, .ref a.oD), (3, .ref a.oA), (2, .ref a.am), (1, .ref a.aX), (0, .ref b)]) hx hb dL_law_1586 hl (by decide) rfl (fun ls hl => ?_)
    refine lv_aload_n hx hb dL_law_1588 rfl (lv_at hl 4 rfl) ?_
    refine lw_m (s1 := S9) (t1 := s9) (Wn := (LCh cy a S9 S9)) hC (c_X8_coldestMember_no l G cy a.am a.aS a.aBf a.aAs a.aSv a.aPa a.aOu a.aTx a.aCo s9.ct s9.nb s9.LN ((s9.x0).1) s9.CM s9.hs s9.th (bI (s9.x0).2) s9.ep s9.fc s9.σ hI.1.1 hI.1.bd hO) (cwV 0 hC.S9.2.2.2.2 gL_law_X8_coldestMember rfl rfl rfl (by decide +kernel) ⟨Nat.le_of_ble_eq_true rfl, Nat.le_of_ble_eq_true rfl⟩) [15, 16] rfl (by decide) (SameR.cons (SameR.cons SameR.nil)) (by subst eS; rfl) hP hD hS rfl hl.1 rfl (Nat.le_of_ble_eq_true rfl) ⟨hc1, hs1⟩ dL_law_1589 (fun H locs hP hD hS => ?_)
    refine lv_istore (lv' := [(7, .int 0), (6, .int 1), (5, .int (nI (4 * q))), (4, .ref a.oD), (3, .ref a.oA), (2, .ref a.am), (1, .ref a.aX), (0, .ref b)]) hx hb dL_law_1592 hl (by decide) rfl (fun ls hl => ?_)
    refine lv_aload_n hx hb dL_law_1594 rfl (lv_at hl 5 rfl) ?_
    refine lw_thrown (s1 := S9) (t1 := S9) (k := 1) hC hP (by subst eS; rfl) hl.1 (Nat.le_of_ble_eq_true rfl) ⟨hc1, hs1⟩ dL_law_1595 ?_
    refine lv_iload hx hb dL_law_1598 (lv_at hl 1 rfl) ?_
    refine lv_icmp_eq (tgt := 1605) hx hb dL_law_1600 (by decide) (fun c_1600 => ?_) (fun c_1600 => ?_)
    rotate_left
    · exact absurd c_1600 (by decide)
    refine lv_iload hx hb dL_law_1605 (lv_at hl 1 rfl) ?_
    refine lv_if_ne (tgt := 1622) hx hb dL_law_1607 (by decide) (fun c_1607 => ?_) (fun c_1607 => ?_)
    rotate_left
    · exact absurd c_1607 (by decide)
    refine lv_goto (tgt := 2890) hx hb dL_law_1622 (by decide) ?_
    exact kk S9 H locs ls (LI.of (LI.mono hI (by omega)) (by subst eS; rfl) (by subst eS; rfl) (by subst eS; rfl) (by subst eS; rfl) (by subst eS; rfl) (by subst eS; rfl) (by subst eS; rfl) (by subst eS; rfl) (by subst eS; rfl) (by subst eS; rfl) (by subst eS; rfl) (by subst eS; rfl) (by subst eS; rfl) (by subst eS; rfl) (by subst eS; rfl)) hP hD hS (lv_sub hl [2, 3, 4, 5, 6, 7] rfl)
  | some j =>
    obtain ⟨S9, eS⟩ : ∃ z : LwS, z = (LwS.mk s9.σ s9.υ s9.ς s9.hs s9.ep s9.fc s9.ml 0 s9.nx s9.ct s9.nb s9.n s9.LN s9.CM s9.ρ s9.x s9.x0 s9.f s9.gk s9.g1 s9.g2 s9.g3 s9.fb s9.fB s9.fA s9.fV s9.fP s9.fO s9.g (fun _ => (nI j).toInt64) s9.fd) := ⟨_, rfl⟩
    refine lv_aload_n hx hb dL_law_1581 rfl (lv_at hl 4 rfl) ?_
    refine lv_aload_n hx hb dL_law_1582 rfl (lv_at hl 2 rfl) ?_
    refine lw_w (mc := 0) (ms := 0) (Wc := (LCh cy a s9 s9)) (Wn := (LCh cy a S9 s9)) hC (w_coldestMember_ok l G cy kS vS a.aX a.na a.tr a.sn s9.hs a.hi a.sc s9.ep s9.fc a.ob s9.σ j a.oA s9.fo hI.1.1 hO) (vx_cwSW 2 hC.S9.2.2.2.2 gL_law_L_coldestMember rfl rfl rfl (by decide +kernel) ⟨Nat.le_of_ble_eq_true rfl, Nat.le_of_ble_eq_true rfl⟩) [0, 1, 24] rfl (by decide) (SameL.cons SameA.rf (SameL.cons SameA.rf (SameL.cons SameA.one SameL.nil))) (by subst eS; rfl) hP hD hS rfl hl.1 rfl (Nat.le_of_ble_eq_true rfl) ⟨hc0, hs0⟩ dL_law_1583 (fun H locs hP hD hS => ?_)
    refine lv_istore (lv' := [(6, .int 0), (5, .int (nI (4 * q))), (4, .ref a.oD), (3, .ref a.oA), (2, .ref a.am), (1, .ref a.aX), (0, .ref b)]) hx hb dL_law_1586 hl (by decide) rfl (fun ls hl => ?_)
    refine lv_aload_n hx hb dL_law_1588 rfl (lv_at hl 4 rfl) ?_
    refine lw_m (s1 := S9) (t1 := s9) (Wn := (LCh cy a S9 S9)) hC (c_X8_coldestMember_ok l G cy a.am a.aS a.aBf a.aAs a.aSv a.aPa a.aOu a.aTx a.aCo s9.ct s9.nb s9.LN ((s9.x0).1) s9.CM s9.hs s9.th (bI (s9.x0).2) s9.ep s9.fc s9.σ j hI.1.1 hI.1.bd hO) (cwV 0 hC.S9.2.2.2.2 gL_law_X8_coldestMember rfl rfl rfl (by decide +kernel) ⟨Nat.le_of_ble_eq_true rfl, Nat.le_of_ble_eq_true rfl⟩) [15, 16] rfl (by decide) (SameR.cons (SameR.cons SameR.nil)) (by subst eS; rfl) hP hD hS rfl hl.1 rfl (Nat.le_of_ble_eq_true rfl) ⟨hcn, hsn⟩ dL_law_1589 (fun H locs hP hD hS => ?_)
    refine lv_istore (lv' := [(7, .int (nI j)), (6, .int 0), (5, .int (nI (4 * q))), (4, .ref a.oD), (3, .ref a.oA), (2, .ref a.am), (1, .ref a.aX), (0, .ref b)]) hx hb dL_law_1592 hl (by decide) rfl (fun ls hl => ?_)
    refine lv_aload_n hx hb dL_law_1594 rfl (lv_at hl 5 rfl) ?_
    refine lw_thrown (s1 := S9) (t1 := S9) (k := 0) hC hP (by subst eS; rfl) hl.1 (Nat.le_of_ble_eq_true rfl) ⟨hcn, hsn⟩ dL_law_1595 ?_
    refine lv_iload hx hb dL_law_1598 (lv_at hl 1 rfl) ?_
    refine lv_icmp_eq (tgt := 1605) hx hb dL_law_1600 (by decide) (fun c_1600 => ?_) (fun c_1600 => ?_)
    rotate_left
    · exact absurd c_1600 (by decide)
    refine lv_iload hx hb dL_law_1605 (lv_at hl 1 rfl) ?_
    refine lv_if_ne (tgt := 1622) hx hb dL_law_1607 (by decide) (fun c_1607 => ?_) (fun c_1607 => ?_)
    · exact absurd c_1607 (by decide)
    refine lv_aload_n hx hb dL_law_1610 rfl (lv_at hl 4 rfl) ?_
    refine lv_iconst (v := 0) hx hb dL_law_1611 (by decide) ?_
    refine lw_ldL (s1 := S9) (t1 := S9) (x := (nI j).toInt64) hC hP (by subst eS; rfl) dL_law_1612 ?_
    refine lv_iload hx hb dL_law_1613 (lv_at hl 0 rfl) ?_
    refine lv_i2l hx hb dL_law_1615 rfl ?_
    refine m_lcmp0 hx hb rfl dL_law_1616 ?_
    refine lv_if_eq (tgt := 1622) hx hb dL_law_1617 (by decide) (fun c_1617 => ?_) (fun c_1617 => ?_)
    rotate_left
    · exact absurd c_1617 (by decide)
    refine lv_goto (tgt := 2890) hx hb dL_law_1622 (by decide) ?_
    refine W.widen (k := cells + 1) (n := slots + 6) (by omega) (by omega) ?_
    exact kk S9 H locs ls (LI.of (LI.mono hI (by omega)) (by subst eS; rfl) (by subst eS; rfl) (by subst eS; rfl) (by subst eS; rfl) (by subst eS; rfl) (by subst eS; rfl) (by subst eS; rfl) (by subst eS; rfl) (by subst eS; rfl) (by subst eS; rfl) (by subst eS; rfl) (by subst eS; rfl) (by subst eS; rfl) (by subst eS; rfl) (by subst eS; rfl)) hP hD hS (lv_sub hl [2, 3, 4, 5, 6, 7] rfl)

set_option maxRecDepth 100000 in
set_option maxHeartbeats 4000000 in
theorem case_24 {p : Program} {l : Launch} {e : Env} {s : State} {m : MethodId} {below : List Frame} {meth : Method} {cq : Code} {G : va_G} {cy : Nat → ClassId} {kS vS : Nat → Nat} {A : Nat → Prop} {a : LA} {b L q : Nat} {xs : Nat → Int32} {Q : State → Prop} {n0 cells slots : Nat} (hC : LC l p s m meth cq G cy kS vS A b L xs) (hq : 4 * q + 4 ≤ L) (hn0 : n0 < 1000000) (hc1 : cells + 1 ≤ room_1.cells) (hs1 : slots + 6 ≤ room_1.slots) (kk : LGo p l e s m below meth cq G cy A a b q Q (n0 + 300) (cells + 1) (slots + 6) 2890) : LGo p l e s m below meth cq G cy A a b q Q n0 cells slots 1625 := by
  intro s9 H locs ls hI hP hD hS hl
  obtain ⟨hx, hb, hml, hown, hts⟩ := id hC.S9
  have hL9 := hC.hL
  have hc0 : cells + 0 ≤ room_1.cells := Nat.le_of_succ_le hc1
  have hcn : cells ≤ room_1.cells := Nat.le_of_succ_le hc1
  have hs0 : slots + 0 ≤ room_1.slots := Nat.le_trans (Nat.le_add_right slots 6) hs1
  have hsn : slots ≤ room_1.slots := Nat.le_trans (Nat.le_add_right slots 6) hs1
  have ho := hI.1.1
  have hN0 := ho.1
  have hM0 := ho.2.1
  have hE0 := ho.2.2.1
  have hnx := hI.2.2.2.2.1
  have hct := hI.2.2.2.2.2.1
  by_cases h2 : cntW (vB s9.σ) (mB s9.σ) (nB s9.σ) < 2
  · have h3 : cntW (vB s9.σ) (mB s9.σ) (nB s9.σ) ≤ 1 := lt_2.mp h2
    obtain ⟨S9, eS⟩ : ∃ z : LwS, z = (LwS.mk s9.σ s9.υ s9.ς s9.hs s9.ep s9.fc s9.ml 1 s9.nx s9.ct s9.nb s9.n s9.LN s9.CM s9.ρ s9.x s9.x0 s9.f s9.gk s9.g1 s9.g2 s9.g3 s9.fb s9.fB s9.fA s9.fV s9.fP s9.fO s9.g s9.fo s9.fd) := ⟨_, rfl⟩
    refine lv_aload_n hx hb dL_law_1625 rfl (lv_at hl 4 rfl) ?_
    refine lv_aload_n hx hb dL_law_1626 rfl (lv_at hl 2 rfl) ?_
    refine lw_w (mc := 1) (ms := 6) (Wc := (LCh cy a s9 s9)) (Wn := (LCh cy a S9 s9)) hC (w_sharedHeat_t l G cy kS vS a.aX a.na a.tr a.sn s9.hs a.hi a.sc s9.ep s9.fc a.ob s9.σ a.oA s9.fo hC.hl9 hI.1.1 h2) (vx_cwSW 2 hC.S9.2.2.2.2 gL_law_L_sharedHeat rfl rfl rfl (by decide +kernel) ⟨Nat.le_of_ble_eq_true rfl, Nat.le_of_ble_eq_true rfl⟩) [0, 1, 24] rfl (by decide) (SameL.cons SameA.rf (SameL.cons SameA.rf (SameL.cons SameA.rf SameL.nil))) (by subst eS; rfl) hP hD hS rfl hl.1 rfl (Nat.le_of_ble_eq_true rfl) ⟨hc1, hs1⟩ dL_law_1627 (fun H locs hP hD hS => ?_)
    refine lv_istore (lv' := [(6, .int 1), (5, .int (nI (4 * q))), (4, .ref a.oD), (3, .ref a.oA), (2, .ref a.am), (1, .ref a.aX), (0, .ref b)]) hx hb dL_law_1630 hl (by decide) rfl (fun ls hl => ?_)
    refine lv_aload_n hx hb dL_law_1632 rfl (lv_at hl 4 rfl) ?_
    refine lw_m (s1 := S9) (t1 := s9) (Wn := (LCh cy a S9 S9)) hC (c_X8_sharedHeat_no l G cy a.am a.aS a.aBf a.aAs a.aSv a.aPa a.aOu a.aTx a.aCo s9.ct s9.nb s9.LN ((s9.x0).1) s9.CM s9.hs s9.th (bI (s9.x0).2) s9.ep s9.fc s9.σ hI.1.1 h3) (cwV 0 hC.S9.2.2.2.2 gL_law_X8_sharedHeat rfl rfl rfl (by decide +kernel) ⟨Nat.le_of_ble_eq_true rfl, Nat.le_of_ble_eq_true rfl⟩) [15, 16] rfl (by decide) (SameR.cons (SameR.cons SameR.nil)) (by subst eS; rfl) hP hD hS rfl hl.1 rfl (Nat.le_of_ble_eq_true rfl) ⟨hc1, hs1⟩ dL_law_1633 (fun H locs hP hD hS => ?_)
    refine lv_istore (lv' := [(7, .int 0), (6, .int 1), (5, .int (nI (4 * q))), (4, .ref a.oD), (3, .ref a.oA), (2, .ref a.am), (1, .ref a.aX), (0, .ref b)]) hx hb dL_law_1636 hl (by decide) rfl (fun ls hl => ?_)
    refine lv_aload_n hx hb dL_law_1638 rfl (lv_at hl 5 rfl) ?_
    refine lw_thrown (s1 := S9) (t1 := S9) (k := 1) hC hP (by subst eS; rfl) hl.1 (Nat.le_of_ble_eq_true rfl) ⟨hc1, hs1⟩ dL_law_1639 ?_
    refine lv_iload hx hb dL_law_1642 (lv_at hl 1 rfl) ?_
    refine lv_icmp_eq (tgt := 1649) hx hb dL_law_1644 (by decide) (fun c_1644 => ?_) (fun c_1644 => ?_)
    rotate_left
    · exact absurd c_1644 (by decide)
    refine lv_iload hx hb dL_law_1649 (lv_at hl 1 rfl) ?_
    refine lv_if_ne (tgt := 1666) hx hb dL_law_1651 (by decide) (fun c_1651 => ?_) (fun c_1651 => ?_)
    rotate_left
    · exact absurd c_1651 (by decide)
    refine lv_goto (tgt := 2890) hx hb dL_law_1666 (by decide) ?_
    exact kk S9 H locs ls (LI.of (LI.mono hI (by omega)) (by subst eS; rfl) (by subst eS; rfl) (by subst eS; rfl) (by subst eS; rfl) (by subst eS; rfl) (by subst eS; rfl) (by subst eS; rfl) (by subst eS; rfl) (by subst eS; rfl) (by subst eS; rfl) (by subst eS; rfl) (by subst eS; rfl) (by subst eS; rfl) (by subst eS; rfl) (by subst eS; rfl)) hP hD hS (lv_sub hl [2, 3, 4, 5, 6, 7] rfl)
  · have h3 : ¬ cntW (vB s9.σ) (mB s9.σ) (nB s9.σ) ≤ 1 := fun z => h2 (lt_2.mpr z)
    cases hO : hotO (vB s9.σ) (hB s9.σ) (mB s9.σ) (nB s9.σ) with
    | none => exact absurd (by rw [hot_none _ hO]; decide) h2
    | some a0 =>
      cases hC0 : colO (vB s9.σ) (hB s9.σ) (mB s9.σ) (nB s9.σ) with
      | none => exact absurd (by rw [col_none _ hC0]; decide) h2
      | some b0 =>
        have hnz := wet_nz hI.1.bd (show a0 < 5 by have := hotO_lt hO; omega) (show b0 < 5 by have := colO_lt hC0; omega) (hot_wet _ hO)
        obtain ⟨S9, eS⟩ : ∃ z : LwS, z = (LwS.mk s9.σ s9.υ s9.ς s9.hs s9.ep s9.fc s9.ml 0 s9.nx s9.ct s9.nb s9.n s9.LN s9.CM s9.ρ s9.x s9.x0 s9.f s9.gk s9.g1 s9.g2 s9.g3 s9.fb s9.fB s9.fA s9.fV s9.fP s9.fO s9.g (fun _ => (units (vB s9.σ) (hB s9.σ) a0 b0).toInt64) s9.fd) := ⟨_, rfl⟩
        refine lv_aload_n hx hb dL_law_1625 rfl (lv_at hl 4 rfl) ?_
        refine lv_aload_n hx hb dL_law_1626 rfl (lv_at hl 2 rfl) ?_
        refine lw_w (mc := 0) (ms := 0) (Wc := (LCh cy a s9 s9)) (Wn := (LCh cy a S9 s9)) hC (w_sharedHeat_ok l G cy kS vS a.aX a.na a.tr a.sn s9.hs a.hi a.sc s9.ep s9.fc a.ob s9.σ a0 b0 a.oA s9.fo hI.1.1 h2 hO hC0) (vx_cwSW 2 hC.S9.2.2.2.2 gL_law_L_sharedHeat rfl rfl rfl (by decide +kernel) ⟨Nat.le_of_ble_eq_true rfl, Nat.le_of_ble_eq_true rfl⟩) [0, 1, 24] rfl (by decide) (SameL.cons SameA.rf (SameL.cons SameA.rf (SameL.cons SameA.one SameL.nil))) (by subst eS; rfl) hP hD hS rfl hl.1 rfl (Nat.le_of_ble_eq_true rfl) ⟨hc0, hs0⟩ dL_law_1627 (fun H locs hP hD hS => ?_)
        refine lv_istore (lv' := [(6, .int 0), (5, .int (nI (4 * q))), (4, .ref a.oD), (3, .ref a.oA), (2, .ref a.am), (1, .ref a.aX), (0, .ref b)]) hx hb dL_law_1630 hl (by decide) rfl (fun ls hl => ?_)
        refine lv_aload_n hx hb dL_law_1632 rfl (lv_at hl 4 rfl) ?_
        refine lw_m (s1 := S9) (t1 := s9) (Wn := (LCh cy a S9 S9)) hC (c_X8_sharedHeat_ok l G cy a.am a.aS a.aBf a.aAs a.aSv a.aPa a.aOu a.aTx a.aCo s9.ct s9.nb s9.LN ((s9.x0).1) s9.CM s9.hs s9.th (bI (s9.x0).2) s9.ep s9.fc s9.σ a0 b0 hI.1.1 hI.1.bd h3 hO hC0 hnz) (cwV 0 hC.S9.2.2.2.2 gL_law_X8_sharedHeat rfl rfl rfl (by decide +kernel) ⟨Nat.le_of_ble_eq_true rfl, Nat.le_of_ble_eq_true rfl⟩) [15, 16] rfl (by decide) (SameR.cons (SameR.cons SameR.nil)) (by subst eS; rfl) hP hD hS rfl hl.1 rfl (Nat.le_of_ble_eq_true rfl) ⟨hcn, hsn⟩ dL_law_1633 (fun H locs hP hD hS => ?_)
        refine lv_istore (lv' := [(7, .int (units (vB s9.σ) (hB s9.σ) a0 b0)), (6, .int 0), (5, .int (nI (4 * q))), (4, .ref a.oD), (3, .ref a.oA), (2, .ref a.am), (1, .ref a.aX), (0, .ref b)]) hx hb dL_law_1636 hl (by decide) rfl (fun ls hl => ?_)
        refine lv_aload_n hx hb dL_law_1638 rfl (lv_at hl 5 rfl) ?_
        refine lw_thrown (s1 := S9) (t1 := S9) (k := 0) hC hP (by subst eS; rfl) hl.1 (Nat.le_of_ble_eq_true rfl) ⟨hcn, hsn⟩ dL_law_1639 ?_
        refine lv_iload hx hb dL_law_1642 (lv_at hl 1 rfl) ?_
        refine lv_icmp_eq (tgt := 1649) hx hb dL_law_1644 (by decide) (fun c_1644 => ?_) (fun c_1644 => ?_)
        rotate_left
        · exact absurd c_1644 (by decide)
        refine lv_iload hx hb dL_law_1649 (lv_at hl 1 rfl) ?_
        refine lv_if_ne (tgt := 1666) hx hb dL_law_1651 (by decide) (fun c_1651 => ?_) (fun c_1651 => ?_)
        · exact absurd c_1651 (by decide)
        refine lv_aload_n hx hb dL_law_1654 rfl (lv_at hl 4 rfl) ?_
        refine lv_iconst (v := 0) hx hb dL_law_1655 (by decide) ?_
        refine lw_ldL (s1 := S9) (t1 := S9) (x := (units (vB s9.σ) (hB s9.σ) a0 b0).toInt64) hC hP (by subst eS; rfl) dL_law_1656 ?_
        refine lv_iload hx hb dL_law_1657 (lv_at hl 0 rfl) ?_
        refine lv_i2l hx hb dL_law_1659 rfl ?_
        refine m_lcmp0 hx hb rfl dL_law_1660 ?_
        refine lv_if_eq (tgt := 1666) hx hb dL_law_1661 (by decide) (fun c_1661 => ?_) (fun c_1661 => ?_)
        rotate_left
        · exact absurd c_1661 (by decide)
        refine lv_goto (tgt := 2890) hx hb dL_law_1666 (by decide) ?_
        refine W.widen (k := cells + 1) (n := slots + 6) (by omega) (by omega) ?_
        exact kk S9 H locs ls (LI.of (LI.mono hI (by omega)) (by subst eS; rfl) (by subst eS; rfl) (by subst eS; rfl) (by subst eS; rfl) (by subst eS; rfl) (by subst eS; rfl) (by subst eS; rfl) (by subst eS; rfl) (by subst eS; rfl) (by subst eS; rfl) (by subst eS; rfl) (by subst eS; rfl) (by subst eS; rfl) (by subst eS; rfl) (by subst eS; rfl)) hP hD hS (lv_sub hl [2, 3, 4, 5, 6, 7] rfl)

set_option maxRecDepth 100000 in
set_option maxHeartbeats 4000000 in
theorem case_25 {p : Program} {l : Launch} {e : Env} {s : State} {m : MethodId} {below : List Frame} {meth : Method} {cq : Code} {G : va_G} {cy : Nat → ClassId} {kS vS : Nat → Nat} {A : Nat → Prop} {a : LA} {b L q : Nat} {xs : Nat → Int32} {Q : State → Prop} {n0 cells slots : Nat} (hC : LC l p s m meth cq G cy kS vS A b L xs) (hq : 4 * q + 4 ≤ L) (hn0 : n0 < 1000000) (hc1 : cells + 1 ≤ room_1.cells) (hs1 : slots + 6 ≤ room_1.slots) (kk : LGo p l e s m below meth cq G cy A a b q Q (n0 + 300) (cells + 1) (slots + 6) 2890) : LGo p l e s m below meth cq G cy A a b q Q n0 cells slots 1669 := by
  intro s9 H locs ls hI hP hD hS hl
  obtain ⟨hx, hb, hml, hown, hts⟩ := id hC.S9
  have hL9 := hC.hL
  have hc0 : cells + 0 ≤ room_1.cells := Nat.le_of_succ_le hc1
  have hcn : cells ≤ room_1.cells := Nat.le_of_succ_le hc1
  have hs0 : slots + 0 ≤ room_1.slots := Nat.le_trans (Nat.le_add_right slots 6) hs1
  have hsn : slots ≤ room_1.slots := Nat.le_trans (Nat.le_add_right slots 6) hs1
  have ho := hI.1.1
  have hN0 := ho.1
  have hM0 := ho.2.1
  have hE0 := ho.2.2.1
  have hnx := hI.2.2.2.2.1
  have hct := hI.2.2.2.2.2.1
  by_cases hF : inI (xs (4 * q + 1)) (nI (nB s9.σ)) = true
  · obtain ⟨j, hj, e1⟩ := ix_of (by omega) hF
    by_cases hm9 : mB s9.σ j = 0
    · obtain ⟨S9, eS⟩ : ∃ z : LwS, z = (LwS.mk s9.σ s9.υ s9.ς s9.hs s9.ep s9.fc s9.ml 2 s9.nx s9.ct s9.nb s9.n s9.LN s9.CM s9.ρ s9.x s9.x0 s9.f s9.gk s9.g1 s9.g2 s9.g3 s9.fb s9.fB s9.fA s9.fV s9.fP s9.fO s9.g s9.fo s9.fd) := ⟨_, rfl⟩
      refine lv_aload_n hx hb dL_law_1669 rfl (lv_at hl 4 rfl) ?_
      refine lv_aload_n hx hb dL_law_1670 rfl (lv_at hl 5 rfl) ?_
      refine lv_iload hx hb dL_law_1671 (lv_at hl 0 rfl) ?_
      refine lv_iconst (v := 1) hx hb dL_law_1673 (by decide) ?_
      refine lv_iadd hx hb dL_law_1674 ?_
      refine m_sld (v := nI j) hx hb hC.hX hC.hbl hC.hbA hS (k := 4 * q + 1) (m_add rfl rfl) (by omega) hC.hL e1 dL_law_1675 ?_
      refine lv_aload_n hx hb dL_law_1676 rfl (lv_at hl 2 rfl) ?_
      refine lw_w (mc := 1) (ms := 6) (Wc := (LCh cy a s9 s9)) (Wn := (LCh cy a S9 s9)) hC (w_ticksUntilDefection_2 l G cy kS vS a.aX a.na a.tr a.sn s9.hs a.hi a.sc s9.ep s9.fc a.ob s9.σ j a.oA s9.fo hC.hl9 hI.1.1 hj hm9) (vx_cwSW 3 hC.S9.2.2.2.2 gL_law_L_ticksUntilDefection rfl rfl rfl (by decide +kernel) ⟨Nat.le_of_ble_eq_true rfl, Nat.le_of_ble_eq_true rfl⟩) [0, 1, 24] rfl (by decide) (SameL.cons SameA.rf (SameL.cons SameA.rf (SameL.cons SameA.rf SameL.nil))) (by subst eS; rfl) hP hD hS rfl hl.1 rfl (Nat.le_of_ble_eq_true rfl) ⟨hc1, hs1⟩ dL_law_1677 (fun H locs hP hD hS => ?_)
      refine lv_istore (lv' := [(6, .int 2), (5, .int (nI (4 * q))), (4, .ref a.oD), (3, .ref a.oA), (2, .ref a.am), (1, .ref a.aX), (0, .ref b)]) hx hb dL_law_1680 hl (by decide) rfl (fun ls hl => ?_)
      refine lv_aload_n hx hb dL_law_1682 rfl (lv_at hl 4 rfl) ?_
      refine lv_aload_n hx hb dL_law_1683 rfl (lv_at hl 6 rfl) ?_
      refine lv_iload hx hb dL_law_1684 (lv_at hl 1 rfl) ?_
      refine lv_iconst (v := 1) hx hb dL_law_1686 (by decide) ?_
      refine lv_iadd hx hb dL_law_1687 ?_
      refine m_sld (v := nI j) hx hb hC.hX hC.hbl hC.hbA hS (k := 4 * q + 1) (m_add rfl rfl) (by omega) hC.hL e1 dL_law_1688 ?_
      refine lw_m (s1 := S9) (t1 := s9) (Wn := (LCh cy a S9 S9)) hC (c_X8_ticksUntilDefection_no2 l G cy a.am a.aS a.aBf a.aAs a.aSv a.aPa a.aOu a.aTx a.aCo s9.ct s9.nb s9.LN ((s9.x0).1) s9.CM s9.hs s9.th (bI (s9.x0).2) s9.ep s9.fc s9.σ j hI.1.1 hj hm9) (cwV 1 hC.S9.2.2.2.2 gL_law_X8_ticksUntilDefection rfl rfl rfl (by decide +kernel) ⟨Nat.le_of_ble_eq_true rfl, Nat.le_of_ble_eq_true rfl⟩) [15, 16] rfl (by decide) (SameR.cons (SameR.cons SameR.nil)) (by subst eS; rfl) hP hD hS rfl hl.1 rfl (Nat.le_of_ble_eq_true rfl) ⟨hc1, hs1⟩ dL_law_1689 (fun H locs hP hD hS => ?_)
      refine lv_istore (lv' := [(7, .int 0), (6, .int 2), (5, .int (nI (4 * q))), (4, .ref a.oD), (3, .ref a.oA), (2, .ref a.am), (1, .ref a.aX), (0, .ref b)]) hx hb dL_law_1692 hl (by decide) rfl (fun ls hl => ?_)
      refine lv_aload_n hx hb dL_law_1694 rfl (lv_at hl 5 rfl) ?_
      refine lw_thrown (s1 := S9) (t1 := S9) (k := 2) hC hP (by subst eS; rfl) hl.1 (Nat.le_of_ble_eq_true rfl) ⟨hc1, hs1⟩ dL_law_1695 ?_
      refine lv_iload hx hb dL_law_1698 (lv_at hl 1 rfl) ?_
      refine lv_icmp_eq (tgt := 1705) hx hb dL_law_1700 (by decide) (fun c_1700 => ?_) (fun c_1700 => ?_)
      rotate_left
      · exact absurd c_1700 (by decide)
      refine lv_iload hx hb dL_law_1705 (lv_at hl 1 rfl) ?_
      refine lv_if_ne (tgt := 1722) hx hb dL_law_1707 (by decide) (fun c_1707 => ?_) (fun c_1707 => ?_)
      rotate_left
      · exact absurd c_1707 (by decide)
      refine lv_goto (tgt := 2890) hx hb dL_law_1722 (by decide) ?_
      exact kk S9 H locs ls (LI.of (LI.mono hI (by omega)) (by subst eS; rfl) (by subst eS; rfl) (by subst eS; rfl) (by subst eS; rfl) (by subst eS; rfl) (by subst eS; rfl) (by subst eS; rfl) (by subst eS; rfl) (by subst eS; rfl) (by subst eS; rfl) (by subst eS; rfl) (by subst eS; rfl) (by subst eS; rfl) (by subst eS; rfl) (by subst eS; rfl)) hP hD hS (lv_sub hl [2, 3, 4, 5, 6, 7] rfl)
    · have hbt := hI.1.mids (K := 60) (by omega)
      by_cases hR1 : atF (fun k9 => mB (tickN s9.σ k9) j) 0 1 60 = -1
      · obtain ⟨S9, eS⟩ : ∃ z : LwS, z = (LwS.mk s9.σ (tickN s9.σ 60) s9.ς s9.hs s9.ep s9.fc s9.ml 3 s9.nx s9.ct s9.nb s9.n s9.LN s9.CM s9.ρ s9.x s9.x0 s9.f s9.gk s9.g1 s9.g2 s9.g3 s9.fb s9.fB (encS s9.σ) s9.fV s9.fP s9.fO s9.g s9.fo s9.fd) := ⟨_, rfl⟩
        refine lv_aload_n hx hb dL_law_1669 rfl (lv_at hl 4 rfl) ?_
        refine lv_aload_n hx hb dL_law_1670 rfl (lv_at hl 5 rfl) ?_
        refine lv_iload hx hb dL_law_1671 (lv_at hl 0 rfl) ?_
        refine lv_iconst (v := 1) hx hb dL_law_1673 (by decide) ?_
        refine lv_iadd hx hb dL_law_1674 ?_
        refine m_sld (v := nI j) hx hb hC.hX hC.hbl hC.hbA hS (k := 4 * q + 1) (m_add rfl rfl) (by omega) hC.hL e1 dL_law_1675 ?_
        refine lv_aload_n hx hb dL_law_1676 rfl (lv_at hl 2 rfl) ?_
        refine lw_w (mc := 1) (ms := 6) (Wc := (LCh cy a s9 s9)) (Wn := (LCh cy a S9 s9)) hC (w_ticksUntilDefection_3 l G cy kS vS a.aX a.na a.tr a.sn s9.hs a.hi a.sc s9.ep s9.fc a.ob s9.σ s9.υ j a.oA s9.fo hC.hl9 hI.1.1 hj hm9 hR1) (vx_cwSW 3 hC.S9.2.2.2.2 gL_law_L_ticksUntilDefection rfl rfl rfl (by decide +kernel) ⟨Nat.le_of_ble_eq_true rfl, Nat.le_of_ble_eq_true rfl⟩) [0, 1, 2, 24] rfl (by decide) (SameL.cons SameA.rf (SameL.cons SameA.rf (SameL.cons SameA.st (SameL.cons SameA.rf SameL.nil)))) (by subst eS; rfl) hP hD hS rfl hl.1 rfl (Nat.le_of_ble_eq_true rfl) ⟨hc1, hs1⟩ dL_law_1677 (fun H locs hP hD hS => ?_)
        refine lv_istore (lv' := [(6, .int 3), (5, .int (nI (4 * q))), (4, .ref a.oD), (3, .ref a.oA), (2, .ref a.am), (1, .ref a.aX), (0, .ref b)]) hx hb dL_law_1680 hl (by decide) rfl (fun ls hl => ?_)
        refine lv_aload_n hx hb dL_law_1682 rfl (lv_at hl 4 rfl) ?_
        refine lv_aload_n hx hb dL_law_1683 rfl (lv_at hl 6 rfl) ?_
        refine lv_iload hx hb dL_law_1684 (lv_at hl 1 rfl) ?_
        refine lv_iconst (v := 1) hx hb dL_law_1686 (by decide) ?_
        refine lv_iadd hx hb dL_law_1687 ?_
        refine m_sld (v := nI j) hx hb hC.hX hC.hbl hC.hbA hS (k := 4 * q + 1) (m_add rfl rfl) (by omega) hC.hL e1 dL_law_1688 ?_
        refine lw_m (s1 := S9) (t1 := s9) (Wn := (LCh cy a S9 S9)) hC (c_X8_ticksUntilDefection_no3 l G cy a.am a.aS a.aBf a.aAs a.aSv a.aPa a.aOu a.aTx a.aCo s9.ct s9.nb s9.LN ((s9.x0).1) s9.CM s9.hs s9.th (bI (s9.x0).2) s9.ep s9.fc s9.σ j (atF (fun k9 => mB (tickN s9.σ k9) j) 0 1 60) s9.fA hI.1.1 hj hm9 rfl hR1 hbt) (cwV 1 hC.S9.2.2.2.2 gL_law_X8_ticksUntilDefection rfl rfl rfl (by decide +kernel) ⟨Nat.le_of_ble_eq_true rfl, Nat.le_of_ble_eq_true rfl⟩) [15, 16, 18] rfl (by decide) (SameR.cons (SameR.cons (SameR.cons SameR.nil))) (by subst eS; rfl) hP hD hS rfl hl.1 rfl (Nat.le_of_ble_eq_true rfl) ⟨hc1, hs1⟩ dL_law_1689 (fun H locs hP hD hS => ?_)
        refine lv_istore (lv' := [(7, .int 0), (6, .int 3), (5, .int (nI (4 * q))), (4, .ref a.oD), (3, .ref a.oA), (2, .ref a.am), (1, .ref a.aX), (0, .ref b)]) hx hb dL_law_1692 hl (by decide) rfl (fun ls hl => ?_)
        refine lv_aload_n hx hb dL_law_1694 rfl (lv_at hl 5 rfl) ?_
        refine lw_thrown (s1 := S9) (t1 := S9) (k := 3) hC hP (by subst eS; rfl) hl.1 (Nat.le_of_ble_eq_true rfl) ⟨hc1, hs1⟩ dL_law_1695 ?_
        refine lv_iload hx hb dL_law_1698 (lv_at hl 1 rfl) ?_
        refine lv_icmp_eq (tgt := 1705) hx hb dL_law_1700 (by decide) (fun c_1700 => ?_) (fun c_1700 => ?_)
        rotate_left
        · exact absurd c_1700 (by decide)
        refine lv_iload hx hb dL_law_1705 (lv_at hl 1 rfl) ?_
        refine lv_if_ne (tgt := 1722) hx hb dL_law_1707 (by decide) (fun c_1707 => ?_) (fun c_1707 => ?_)
        rotate_left
        · exact absurd c_1707 (by decide)
        refine lv_goto (tgt := 2890) hx hb dL_law_1722 (by decide) ?_
        exact kk S9 H locs ls (LI.of (LI.mono hI (by omega)) (by subst eS; rfl) (by subst eS; rfl) (by subst eS; rfl) (by subst eS; rfl) (by subst eS; rfl) (by subst eS; rfl) (by subst eS; rfl) (by subst eS; rfl) (by subst eS; rfl) (by subst eS; rfl) (by subst eS; rfl) (by subst eS; rfl) (by subst eS; rfl) (by subst eS; rfl) (by subst eS; rfl)) hP hD hS (lv_sub hl [2, 3, 4, 5, 6, 7] rfl)
      · obtain ⟨n9, hn9, hR2⟩ := at_nI (f := fun k9 => mB (tickN s9.σ k9) j) (i := 0) (k := 1) (d := 60) hR1
        obtain ⟨S9, eS⟩ : ∃ z : LwS, z = (LwS.mk s9.σ (tickN s9.σ n9) s9.ς s9.hs s9.ep s9.fc s9.ml 0 s9.nx s9.ct s9.nb s9.n s9.LN s9.CM s9.ρ s9.x s9.x0 s9.f s9.gk s9.g1 s9.g2 s9.g3 s9.fb s9.fB (encS s9.σ) s9.fV s9.fP s9.fO s9.g (fun _ => (nI n9).toInt64) s9.fd) := ⟨_, rfl⟩
        refine lv_aload_n hx hb dL_law_1669 rfl (lv_at hl 4 rfl) ?_
        refine lv_aload_n hx hb dL_law_1670 rfl (lv_at hl 5 rfl) ?_
        refine lv_iload hx hb dL_law_1671 (lv_at hl 0 rfl) ?_
        refine lv_iconst (v := 1) hx hb dL_law_1673 (by decide) ?_
        refine lv_iadd hx hb dL_law_1674 ?_
        refine m_sld (v := nI j) hx hb hC.hX hC.hbl hC.hbA hS (k := 4 * q + 1) (m_add rfl rfl) (by omega) hC.hL e1 dL_law_1675 ?_
        refine lv_aload_n hx hb dL_law_1676 rfl (lv_at hl 2 rfl) ?_
        refine lw_w (mc := 0) (ms := 0) (Wc := (LCh cy a s9 s9)) (Wn := (LCh cy a S9 s9)) hC (w_ticksUntilDefection_ok l G cy kS vS a.aX a.na a.tr a.sn s9.hs a.hi a.sc s9.ep s9.fc a.ob s9.σ s9.υ j n9 a.oA s9.fo hI.1.1 hj hm9 (by omega) hR2) (vx_cwSW 3 hC.S9.2.2.2.2 gL_law_L_ticksUntilDefection rfl rfl rfl (by decide +kernel) ⟨Nat.le_of_ble_eq_true rfl, Nat.le_of_ble_eq_true rfl⟩) [0, 1, 2, 24] rfl (by decide) (SameL.cons SameA.rf (SameL.cons SameA.rf (SameL.cons SameA.st (SameL.cons SameA.one SameL.nil)))) (by subst eS; rfl) hP hD hS rfl hl.1 rfl (Nat.le_of_ble_eq_true rfl) ⟨hc0, hs0⟩ dL_law_1677 (fun H locs hP hD hS => ?_)
        refine lv_istore (lv' := [(6, .int 0), (5, .int (nI (4 * q))), (4, .ref a.oD), (3, .ref a.oA), (2, .ref a.am), (1, .ref a.aX), (0, .ref b)]) hx hb dL_law_1680 hl (by decide) rfl (fun ls hl => ?_)
        refine lv_aload_n hx hb dL_law_1682 rfl (lv_at hl 4 rfl) ?_
        refine lv_aload_n hx hb dL_law_1683 rfl (lv_at hl 6 rfl) ?_
        refine lv_iload hx hb dL_law_1684 (lv_at hl 1 rfl) ?_
        refine lv_iconst (v := 1) hx hb dL_law_1686 (by decide) ?_
        refine lv_iadd hx hb dL_law_1687 ?_
        refine m_sld (v := nI j) hx hb hC.hX hC.hbl hC.hbA hS (k := 4 * q + 1) (m_add rfl rfl) (by omega) hC.hL e1 dL_law_1688 ?_
        refine lw_m (s1 := S9) (t1 := s9) (Wn := (LCh cy a S9 S9)) hC (c_X8_ticksUntilDefection_ok l G cy a.am a.aS a.aBf a.aAs a.aSv a.aPa a.aOu a.aTx a.aCo s9.ct s9.nb s9.LN ((s9.x0).1) s9.CM s9.hs s9.th (bI (s9.x0).2) s9.ep s9.fc s9.σ j (atF (fun k9 => mB (tickN s9.σ k9) j) 0 1 60) s9.fA hI.1.1 hj hm9 rfl hR1 hbt) (cwV 1 hC.S9.2.2.2.2 gL_law_X8_ticksUntilDefection rfl rfl rfl (by decide +kernel) ⟨Nat.le_of_ble_eq_true rfl, Nat.le_of_ble_eq_true rfl⟩) [15, 16, 18] rfl (by decide) (SameR.cons (SameR.cons (SameR.cons SameR.nil))) (by subst eS; rfl) hP hD hS rfl hl.1 rfl (Nat.le_of_ble_eq_true rfl) ⟨hcn, hsn⟩ dL_law_1689 (fun H locs hP hD hS => ?_)
        refine lv_istore (lv' := [(7, .int (atF (fun k9 => mB (tickN s9.σ k9) j) 0 1 60)), (6, .int 0), (5, .int (nI (4 * q))), (4, .ref a.oD), (3, .ref a.oA), (2, .ref a.am), (1, .ref a.aX), (0, .ref b)]) hx hb dL_law_1692 hl (by decide) rfl (fun ls hl => ?_)
        refine lv_aload_n hx hb dL_law_1694 rfl (lv_at hl 5 rfl) ?_
        refine lw_thrown (s1 := S9) (t1 := S9) (k := 0) hC hP (by subst eS; rfl) hl.1 (Nat.le_of_ble_eq_true rfl) ⟨hcn, hsn⟩ dL_law_1695 ?_
        refine lv_iload hx hb dL_law_1698 (lv_at hl 1 rfl) ?_
        refine lv_icmp_eq (tgt := 1705) hx hb dL_law_1700 (by decide) (fun c_1700 => ?_) (fun c_1700 => ?_)
        rotate_left
        · exact absurd c_1700 (by decide)
        refine lv_iload hx hb dL_law_1705 (lv_at hl 1 rfl) ?_
        refine lv_if_ne (tgt := 1722) hx hb dL_law_1707 (by decide) (fun c_1707 => ?_) (fun c_1707 => ?_)
        · exact absurd c_1707 (by decide)
        refine lv_aload_n hx hb dL_law_1710 rfl (lv_at hl 4 rfl) ?_
        refine lv_iconst (v := 0) hx hb dL_law_1711 (by decide) ?_
        refine lw_ldL (s1 := S9) (t1 := S9) (x := (nI n9).toInt64) hC hP (by subst eS; rfl) dL_law_1712 ?_
        refine lv_iload hx hb dL_law_1713 (lv_at hl 0 rfl) ?_
        refine lv_i2l hx hb dL_law_1715 rfl ?_
        refine m_lcmp0 hx hb (congrArg Int32.toInt64 hR2.symm) dL_law_1716 ?_
        refine lv_if_eq (tgt := 1722) hx hb dL_law_1717 (by decide) (fun c_1717 => ?_) (fun c_1717 => ?_)
        rotate_left
        · exact absurd c_1717 (by decide)
        refine lv_goto (tgt := 2890) hx hb dL_law_1722 (by decide) ?_
        refine W.widen (k := cells + 1) (n := slots + 6) (by omega) (by omega) ?_
        exact kk S9 H locs ls (LI.of (LI.mono hI (by omega)) (by subst eS; rfl) (by subst eS; rfl) (by subst eS; rfl) (by subst eS; rfl) (by subst eS; rfl) (by subst eS; rfl) (by subst eS; rfl) (by subst eS; rfl) (by subst eS; rfl) (by subst eS; rfl) (by subst eS; rfl) (by subst eS; rfl) (by subst eS; rfl) (by subst eS; rfl) (by subst eS; rfl)) hP hD hS (lv_sub hl [2, 3, 4, 5, 6, 7] rfl)
  · obtain ⟨S9, eS⟩ : ∃ z : LwS, z = (LwS.mk s9.σ s9.υ s9.ς s9.hs s9.ep s9.fc s9.ml 1 s9.nx s9.ct s9.nb s9.n s9.LN s9.CM s9.ρ s9.x s9.x0 s9.f s9.gk s9.g1 s9.g2 s9.g3 s9.fb s9.fB s9.fA s9.fV s9.fP s9.fO s9.g s9.fo s9.fd) := ⟨_, rfl⟩
    refine lv_aload_n hx hb dL_law_1669 rfl (lv_at hl 4 rfl) ?_
    refine lv_aload_n hx hb dL_law_1670 rfl (lv_at hl 5 rfl) ?_
    refine lv_iload hx hb dL_law_1671 (lv_at hl 0 rfl) ?_
    refine lv_iconst (v := 1) hx hb dL_law_1673 (by decide) ?_
    refine lv_iadd hx hb dL_law_1674 ?_
    refine m_sld (v := xs (4 * q + 1)) hx hb hC.hX hC.hbl hC.hbA hS (k := 4 * q + 1) (m_add rfl rfl) (by omega) hC.hL rfl dL_law_1675 ?_
    refine lv_aload_n hx hb dL_law_1676 rfl (lv_at hl 2 rfl) ?_
    refine lw_w (mc := 1) (ms := 6) (Wc := (LCh cy a s9 s9)) (Wn := (LCh cy a S9 s9)) hC (w_ticksUntilDefection_1 l G cy kS vS a.aX a.na a.tr a.sn s9.hs a.hi a.sc s9.ep s9.fc a.ob s9.σ (xs (4 * q + 1)) a.oA s9.fo hC.hl9 hI.1.1 hF) (vx_cwSW 3 hC.S9.2.2.2.2 gL_law_L_ticksUntilDefection rfl rfl rfl (by decide +kernel) ⟨Nat.le_of_ble_eq_true rfl, Nat.le_of_ble_eq_true rfl⟩) [0, 1, 24] rfl (by decide) (SameL.cons SameA.rf (SameL.cons SameA.rf (SameL.cons SameA.rf SameL.nil))) (by subst eS; rfl) hP hD hS rfl hl.1 rfl (Nat.le_of_ble_eq_true rfl) ⟨hc1, hs1⟩ dL_law_1677 (fun H locs hP hD hS => ?_)
    refine lv_istore (lv' := [(6, .int 1), (5, .int (nI (4 * q))), (4, .ref a.oD), (3, .ref a.oA), (2, .ref a.am), (1, .ref a.aX), (0, .ref b)]) hx hb dL_law_1680 hl (by decide) rfl (fun ls hl => ?_)
    refine lv_aload_n hx hb dL_law_1682 rfl (lv_at hl 4 rfl) ?_
    refine lv_aload_n hx hb dL_law_1683 rfl (lv_at hl 6 rfl) ?_
    refine lv_iload hx hb dL_law_1684 (lv_at hl 1 rfl) ?_
    refine lv_iconst (v := 1) hx hb dL_law_1686 (by decide) ?_
    refine lv_iadd hx hb dL_law_1687 ?_
    refine m_sld (v := xs (4 * q + 1)) hx hb hC.hX hC.hbl hC.hbA hS (k := 4 * q + 1) (m_add rfl rfl) (by omega) hC.hL rfl dL_law_1688 ?_
    refine lw_m (s1 := S9) (t1 := s9) (Wn := (LCh cy a S9 S9)) hC (c_X8_ticksUntilDefection_no1 l G cy a.am a.aS a.aBf a.aAs a.aSv a.aPa a.aOu a.aTx a.aCo s9.ct s9.nb s9.LN ((s9.x0).1) s9.CM s9.hs s9.th (bI (s9.x0).2) s9.ep s9.fc s9.σ (xs (4 * q + 1)) hI.1.1 hF) (cwV 1 hC.S9.2.2.2.2 gL_law_X8_ticksUntilDefection rfl rfl rfl (by decide +kernel) ⟨Nat.le_of_ble_eq_true rfl, Nat.le_of_ble_eq_true rfl⟩) [15, 16] rfl (by decide) (SameR.cons (SameR.cons SameR.nil)) (by subst eS; rfl) hP hD hS rfl hl.1 rfl (Nat.le_of_ble_eq_true rfl) ⟨hc1, hs1⟩ dL_law_1689 (fun H locs hP hD hS => ?_)
    refine lv_istore (lv' := [(7, .int 0), (6, .int 1), (5, .int (nI (4 * q))), (4, .ref a.oD), (3, .ref a.oA), (2, .ref a.am), (1, .ref a.aX), (0, .ref b)]) hx hb dL_law_1692 hl (by decide) rfl (fun ls hl => ?_)
    refine lv_aload_n hx hb dL_law_1694 rfl (lv_at hl 5 rfl) ?_
    refine lw_thrown (s1 := S9) (t1 := S9) (k := 1) hC hP (by subst eS; rfl) hl.1 (Nat.le_of_ble_eq_true rfl) ⟨hc1, hs1⟩ dL_law_1695 ?_
    refine lv_iload hx hb dL_law_1698 (lv_at hl 1 rfl) ?_
    refine lv_icmp_eq (tgt := 1705) hx hb dL_law_1700 (by decide) (fun c_1700 => ?_) (fun c_1700 => ?_)
    rotate_left
    · exact absurd c_1700 (by decide)
    refine lv_iload hx hb dL_law_1705 (lv_at hl 1 rfl) ?_
    refine lv_if_ne (tgt := 1722) hx hb dL_law_1707 (by decide) (fun c_1707 => ?_) (fun c_1707 => ?_)
    rotate_left
    · exact absurd c_1707 (by decide)
    refine lv_goto (tgt := 2890) hx hb dL_law_1722 (by decide) ?_
    exact kk S9 H locs ls (LI.of (LI.mono hI (by omega)) (by subst eS; rfl) (by subst eS; rfl) (by subst eS; rfl) (by subst eS; rfl) (by subst eS; rfl) (by subst eS; rfl) (by subst eS; rfl) (by subst eS; rfl) (by subst eS; rfl) (by subst eS; rfl) (by subst eS; rfl) (by subst eS; rfl) (by subst eS; rfl) (by subst eS; rfl) (by subst eS; rfl)) hP hD hS (lv_sub hl [2, 3, 4, 5, 6, 7] rfl)

set_option maxRecDepth 100000 in
set_option maxHeartbeats 4000000 in
theorem case_26 {p : Program} {l : Launch} {e : Env} {s : State} {m : MethodId} {below : List Frame} {meth : Method} {cq : Code} {G : va_G} {cy : Nat → ClassId} {kS vS : Nat → Nat} {A : Nat → Prop} {a : LA} {b L q : Nat} {xs : Nat → Int32} {Q : State → Prop} {n0 cells slots : Nat} (hC : LC l p s m meth cq G cy kS vS A b L xs) (hq : 4 * q + 4 ≤ L) (hn0 : n0 < 1000000) (hc1 : cells + 1 ≤ room_1.cells) (hs1 : slots + 6 ≤ room_1.slots) (kk : LGo p l e s m below meth cq G cy A a b q Q (n0 + 300) (cells + 1) (slots + 6) 2890) : LGo p l e s m below meth cq G cy A a b q Q n0 cells slots 1725 := by
  intro s9 H locs ls hI hP hD hS hl
  obtain ⟨hx, hb, hml, hown, hts⟩ := id hC.S9
  have hL9 := hC.hL
  have hc0 : cells + 0 ≤ room_1.cells := Nat.le_of_succ_le hc1
  have hcn : cells ≤ room_1.cells := Nat.le_of_succ_le hc1
  have hs0 : slots + 0 ≤ room_1.slots := Nat.le_trans (Nat.le_add_right slots 6) hs1
  have hsn : slots ≤ room_1.slots := Nat.le_trans (Nat.le_add_right slots 6) hs1
  have ho := hI.1.1
  have hN0 := ho.1
  have hM0 := ho.2.1
  have hE0 := ho.2.2.1
  have hnx := hI.2.2.2.2.1
  have hct := hI.2.2.2.2.2.1
  by_cases hF : inI (xs (4 * q + 1)) (nI (nB s9.σ)) = true
  · obtain ⟨j, hj, e1⟩ := ix_of (by omega) hF
    by_cases h6 : inR (xs (4 * q + 2)) 0 60 = true
    · obtain ⟨e2, -, h60⟩ := bx_of (lo := 0) (hi := 60) (by omega) (by omega) h6
      have h7 : inR (nI (bx (xs (4 * q + 2)))) 0 60 = true := by rw [← e2]; exact h6
      obtain ⟨S9, eS⟩ : ∃ z : LwS, z = (LwS.mk s9.σ (tickN s9.σ (bx (xs (4 * q + 2)))) s9.ς s9.hs s9.ep s9.fc s9.ml 0 s9.nx s9.ct s9.nb s9.n s9.LN s9.CM s9.ρ s9.x s9.x0 s9.f s9.gk s9.g1 s9.g2 s9.g3 s9.fb s9.fB (encS s9.σ) s9.fV s9.fP s9.fO s9.g (fun _ => (hB (tickN s9.σ (bx (xs (4 * q + 2)))) j).toInt64) s9.fd) := ⟨_, rfl⟩
      refine lv_aload_n hx hb dL_law_1725 rfl (lv_at hl 4 rfl) ?_
      refine lv_aload_n hx hb dL_law_1726 rfl (lv_at hl 5 rfl) ?_
      refine lv_iload hx hb dL_law_1727 (lv_at hl 0 rfl) ?_
      refine lv_iconst (v := 1) hx hb dL_law_1729 (by decide) ?_
      refine lv_iadd hx hb dL_law_1730 ?_
      refine m_sld (v := nI j) hx hb hC.hX hC.hbl hC.hbA hS (k := 4 * q + 1) (m_add rfl rfl) (by omega) hC.hL e1 dL_law_1731 ?_
      refine lv_aload_n hx hb dL_law_1732 rfl (lv_at hl 5 rfl) ?_
      refine lv_iload hx hb dL_law_1733 (lv_at hl 0 rfl) ?_
      refine lv_iconst (v := 2) hx hb dL_law_1735 (by decide) ?_
      refine lv_iadd hx hb dL_law_1736 ?_
      refine m_sld (v := nI (bx (xs (4 * q + 2)))) hx hb hC.hX hC.hbl hC.hbA hS (k := 4 * q + 2) (m_add rfl rfl) (by omega) hC.hL e2 dL_law_1737 ?_
      refine lv_aload_n hx hb dL_law_1738 rfl (lv_at hl 2 rfl) ?_
      refine lw_w (mc := 0) (ms := 0) (Wc := (LCh cy a s9 s9)) (Wn := (LCh cy a S9 s9)) hC (w_heatAfter_ok l G cy kS vS a.aX a.na a.tr a.sn s9.hs a.hi a.sc s9.ep s9.fc a.ob s9.σ s9.υ j (bx (xs (4 * q + 2))) a.oA s9.fo hI.1.1 hj (by omega) h60) (vx_cwSW 4 hC.S9.2.2.2.2 gL_law_L_heatAfter rfl rfl rfl (by decide +kernel) ⟨Nat.le_of_ble_eq_true rfl, Nat.le_of_ble_eq_true rfl⟩) [0, 1, 2, 24] rfl (by decide) (SameL.cons SameA.rf (SameL.cons SameA.rf (SameL.cons SameA.st (SameL.cons SameA.one SameL.nil)))) (by subst eS; rfl) hP hD hS rfl hl.1 rfl (Nat.le_of_ble_eq_true rfl) ⟨hc0, hs0⟩ dL_law_1739 (fun H locs hP hD hS => ?_)
      refine lv_istore (lv' := [(6, .int 0), (5, .int (nI (4 * q))), (4, .ref a.oD), (3, .ref a.oA), (2, .ref a.am), (1, .ref a.aX), (0, .ref b)]) hx hb dL_law_1742 hl (by decide) rfl (fun ls hl => ?_)
      refine lv_aload_n hx hb dL_law_1744 rfl (lv_at hl 4 rfl) ?_
      refine lv_aload_n hx hb dL_law_1745 rfl (lv_at hl 6 rfl) ?_
      refine lv_iload hx hb dL_law_1746 (lv_at hl 1 rfl) ?_
      refine lv_iconst (v := 1) hx hb dL_law_1748 (by decide) ?_
      refine lv_iadd hx hb dL_law_1749 ?_
      refine m_sld (v := nI j) hx hb hC.hX hC.hbl hC.hbA hS (k := 4 * q + 1) (m_add rfl rfl) (by omega) hC.hL e1 dL_law_1750 ?_
      refine lv_aload_n hx hb dL_law_1751 rfl (lv_at hl 6 rfl) ?_
      refine lv_iload hx hb dL_law_1752 (lv_at hl 1 rfl) ?_
      refine lv_iconst (v := 2) hx hb dL_law_1754 (by decide) ?_
      refine lv_iadd hx hb dL_law_1755 ?_
      refine m_sld (v := nI (bx (xs (4 * q + 2)))) hx hb hC.hX hC.hbl hC.hbA hS (k := 4 * q + 2) (m_add rfl rfl) (by omega) hC.hL e2 dL_law_1756 ?_
      refine lw_m (s1 := S9) (t1 := s9) (Wn := (LCh cy a S9 S9)) hC (c_X8_heatAfter_ok l G cy a.am a.aS a.aBf a.aAs a.aSv a.aPa a.aOu a.aTx a.aCo s9.ct s9.nb s9.LN ((s9.x0).1) s9.CM s9.hs s9.th (bI (s9.x0).2) s9.ep s9.fc s9.σ j (bx (xs (4 * q + 2))) s9.fA hI.1.1 hj h7 (by omega) (hI.1.mids (by omega))) (cwV 2 hC.S9.2.2.2.2 gL_law_X8_heatAfter rfl rfl rfl (by decide +kernel) ⟨Nat.le_of_ble_eq_true rfl, Nat.le_of_ble_eq_true rfl⟩) [15, 16, 18] rfl (by decide) (SameR.cons (SameR.cons (SameR.cons SameR.nil))) (by subst eS; rfl) hP hD hS rfl hl.1 rfl (Nat.le_of_ble_eq_true rfl) ⟨hcn, hsn⟩ dL_law_1757 (fun H locs hP hD hS => ?_)
      refine lv_istore (lv' := [(7, .int (hB (tickN s9.σ (bx (xs (4 * q + 2)))) j)), (6, .int 0), (5, .int (nI (4 * q))), (4, .ref a.oD), (3, .ref a.oA), (2, .ref a.am), (1, .ref a.aX), (0, .ref b)]) hx hb dL_law_1760 hl (by decide) rfl (fun ls hl => ?_)
      refine lv_aload_n hx hb dL_law_1762 rfl (lv_at hl 5 rfl) ?_
      refine lw_thrown (s1 := S9) (t1 := S9) (k := 0) hC hP (by subst eS; rfl) hl.1 (Nat.le_of_ble_eq_true rfl) ⟨hcn, hsn⟩ dL_law_1763 ?_
      refine lv_iload hx hb dL_law_1766 (lv_at hl 1 rfl) ?_
      refine lv_icmp_eq (tgt := 1773) hx hb dL_law_1768 (by decide) (fun c_1768 => ?_) (fun c_1768 => ?_)
      rotate_left
      · exact absurd c_1768 (by decide)
      refine lv_iload hx hb dL_law_1773 (lv_at hl 1 rfl) ?_
      refine lv_if_ne (tgt := 1790) hx hb dL_law_1775 (by decide) (fun c_1775 => ?_) (fun c_1775 => ?_)
      · exact absurd c_1775 (by decide)
      refine lv_aload_n hx hb dL_law_1778 rfl (lv_at hl 4 rfl) ?_
      refine lv_iconst (v := 0) hx hb dL_law_1779 (by decide) ?_
      refine lw_ldL (s1 := S9) (t1 := S9) (x := (hB (tickN s9.σ (bx (xs (4 * q + 2)))) j).toInt64) hC hP (by subst eS; rfl) dL_law_1780 ?_
      refine lv_iload hx hb dL_law_1781 (lv_at hl 0 rfl) ?_
      refine lv_i2l hx hb dL_law_1783 rfl ?_
      refine m_lcmp0 hx hb rfl dL_law_1784 ?_
      refine lv_if_eq (tgt := 1790) hx hb dL_law_1785 (by decide) (fun c_1785 => ?_) (fun c_1785 => ?_)
      rotate_left
      · exact absurd c_1785 (by decide)
      refine lv_goto (tgt := 2890) hx hb dL_law_1790 (by decide) ?_
      refine W.widen (k := cells + 1) (n := slots + 6) (by omega) (by omega) ?_
      exact kk S9 H locs ls (LI.of (LI.mono hI (by omega)) (by subst eS; rfl) (by subst eS; rfl) (by subst eS; rfl) (by subst eS; rfl) (by subst eS; rfl) (by subst eS; rfl) (by subst eS; rfl) (by subst eS; rfl) (by subst eS; rfl) (by subst eS; rfl) (by subst eS; rfl) (by subst eS; rfl) (by subst eS; rfl) (by subst eS; rfl) (by subst eS; rfl)) hP hD hS (lv_sub hl [2, 3, 4, 5, 6, 7] rfl)
    · obtain ⟨S9, eS⟩ : ∃ z : LwS, z = (LwS.mk s9.σ s9.υ s9.ς s9.hs s9.ep s9.fc s9.ml 2 s9.nx s9.ct s9.nb s9.n s9.LN s9.CM s9.ρ s9.x s9.x0 s9.f s9.gk s9.g1 s9.g2 s9.g3 s9.fb s9.fB s9.fA s9.fV s9.fP s9.fO s9.g s9.fo s9.fd) := ⟨_, rfl⟩
      refine lv_aload_n hx hb dL_law_1725 rfl (lv_at hl 4 rfl) ?_
      refine lv_aload_n hx hb dL_law_1726 rfl (lv_at hl 5 rfl) ?_
      refine lv_iload hx hb dL_law_1727 (lv_at hl 0 rfl) ?_
      refine lv_iconst (v := 1) hx hb dL_law_1729 (by decide) ?_
      refine lv_iadd hx hb dL_law_1730 ?_
      refine m_sld (v := nI j) hx hb hC.hX hC.hbl hC.hbA hS (k := 4 * q + 1) (m_add rfl rfl) (by omega) hC.hL e1 dL_law_1731 ?_
      refine lv_aload_n hx hb dL_law_1732 rfl (lv_at hl 5 rfl) ?_
      refine lv_iload hx hb dL_law_1733 (lv_at hl 0 rfl) ?_
      refine lv_iconst (v := 2) hx hb dL_law_1735 (by decide) ?_
      refine lv_iadd hx hb dL_law_1736 ?_
      refine m_sld (v := xs (4 * q + 2)) hx hb hC.hX hC.hbl hC.hbA hS (k := 4 * q + 2) (m_add rfl rfl) (by omega) hC.hL rfl dL_law_1737 ?_
      refine lv_aload_n hx hb dL_law_1738 rfl (lv_at hl 2 rfl) ?_
      refine lw_w (mc := 1) (ms := 6) (Wc := (LCh cy a s9 s9)) (Wn := (LCh cy a S9 s9)) hC (w_heatAfter_2 l G cy kS vS a.aX a.na a.tr a.sn s9.hs a.hi a.sc s9.ep s9.fc a.ob s9.σ j (xs (4 * q + 2)) a.oA s9.fo hC.hl9 hI.1.1 hj h6) (vx_cwSW 4 hC.S9.2.2.2.2 gL_law_L_heatAfter rfl rfl rfl (by decide +kernel) ⟨Nat.le_of_ble_eq_true rfl, Nat.le_of_ble_eq_true rfl⟩) [0, 1, 24] rfl (by decide) (SameL.cons SameA.rf (SameL.cons SameA.rf (SameL.cons SameA.rf SameL.nil))) (by subst eS; rfl) hP hD hS rfl hl.1 rfl (Nat.le_of_ble_eq_true rfl) ⟨hc1, hs1⟩ dL_law_1739 (fun H locs hP hD hS => ?_)
      refine lv_istore (lv' := [(6, .int 2), (5, .int (nI (4 * q))), (4, .ref a.oD), (3, .ref a.oA), (2, .ref a.am), (1, .ref a.aX), (0, .ref b)]) hx hb dL_law_1742 hl (by decide) rfl (fun ls hl => ?_)
      refine lv_aload_n hx hb dL_law_1744 rfl (lv_at hl 4 rfl) ?_
      refine lv_aload_n hx hb dL_law_1745 rfl (lv_at hl 6 rfl) ?_
      refine lv_iload hx hb dL_law_1746 (lv_at hl 1 rfl) ?_
      refine lv_iconst (v := 1) hx hb dL_law_1748 (by decide) ?_
      refine lv_iadd hx hb dL_law_1749 ?_
      refine m_sld (v := nI j) hx hb hC.hX hC.hbl hC.hbA hS (k := 4 * q + 1) (m_add rfl rfl) (by omega) hC.hL e1 dL_law_1750 ?_
      refine lv_aload_n hx hb dL_law_1751 rfl (lv_at hl 6 rfl) ?_
      refine lv_iload hx hb dL_law_1752 (lv_at hl 1 rfl) ?_
      refine lv_iconst (v := 2) hx hb dL_law_1754 (by decide) ?_
      refine lv_iadd hx hb dL_law_1755 ?_
      refine m_sld (v := xs (4 * q + 2)) hx hb hC.hX hC.hbl hC.hbA hS (k := 4 * q + 2) (m_add rfl rfl) (by omega) hC.hL rfl dL_law_1756 ?_
      refine lw_m (s1 := S9) (t1 := s9) (Wn := (LCh cy a S9 S9)) hC (c_X8_heatAfter_no2 l G cy a.am a.aS a.aBf a.aAs a.aSv a.aPa a.aOu a.aTx a.aCo s9.ct s9.nb s9.LN ((s9.x0).1) s9.CM s9.hs s9.th (bI (s9.x0).2) s9.ep s9.fc s9.σ j (xs (4 * q + 2)) hI.1.1 hj h6) (cwV 2 hC.S9.2.2.2.2 gL_law_X8_heatAfter rfl rfl rfl (by decide +kernel) ⟨Nat.le_of_ble_eq_true rfl, Nat.le_of_ble_eq_true rfl⟩) [15, 16] rfl (by decide) (SameR.cons (SameR.cons SameR.nil)) (by subst eS; rfl) hP hD hS rfl hl.1 rfl (Nat.le_of_ble_eq_true rfl) ⟨hc1, hs1⟩ dL_law_1757 (fun H locs hP hD hS => ?_)
      refine lv_istore (lv' := [(7, .int 0), (6, .int 2), (5, .int (nI (4 * q))), (4, .ref a.oD), (3, .ref a.oA), (2, .ref a.am), (1, .ref a.aX), (0, .ref b)]) hx hb dL_law_1760 hl (by decide) rfl (fun ls hl => ?_)
      refine lv_aload_n hx hb dL_law_1762 rfl (lv_at hl 5 rfl) ?_
      refine lw_thrown (s1 := S9) (t1 := S9) (k := 2) hC hP (by subst eS; rfl) hl.1 (Nat.le_of_ble_eq_true rfl) ⟨hc1, hs1⟩ dL_law_1763 ?_
      refine lv_iload hx hb dL_law_1766 (lv_at hl 1 rfl) ?_
      refine lv_icmp_eq (tgt := 1773) hx hb dL_law_1768 (by decide) (fun c_1768 => ?_) (fun c_1768 => ?_)
      rotate_left
      · exact absurd c_1768 (by decide)
      refine lv_iload hx hb dL_law_1773 (lv_at hl 1 rfl) ?_
      refine lv_if_ne (tgt := 1790) hx hb dL_law_1775 (by decide) (fun c_1775 => ?_) (fun c_1775 => ?_)
      rotate_left
      · exact absurd c_1775 (by decide)
      refine lv_goto (tgt := 2890) hx hb dL_law_1790 (by decide) ?_
      exact kk S9 H locs ls (LI.of (LI.mono hI (by omega)) (by subst eS; rfl) (by subst eS; rfl) (by subst eS; rfl) (by subst eS; rfl) (by subst eS; rfl) (by subst eS; rfl) (by subst eS; rfl) (by subst eS; rfl) (by subst eS; rfl) (by subst eS; rfl) (by subst eS; rfl) (by subst eS; rfl) (by subst eS; rfl) (by subst eS; rfl) (by subst eS; rfl)) hP hD hS (lv_sub hl [2, 3, 4, 5, 6, 7] rfl)
  · obtain ⟨S9, eS⟩ : ∃ z : LwS, z = (LwS.mk s9.σ s9.υ s9.ς s9.hs s9.ep s9.fc s9.ml 1 s9.nx s9.ct s9.nb s9.n s9.LN s9.CM s9.ρ s9.x s9.x0 s9.f s9.gk s9.g1 s9.g2 s9.g3 s9.fb s9.fB s9.fA s9.fV s9.fP s9.fO s9.g s9.fo s9.fd) := ⟨_, rfl⟩
    refine lv_aload_n hx hb dL_law_1725 rfl (lv_at hl 4 rfl) ?_
    refine lv_aload_n hx hb dL_law_1726 rfl (lv_at hl 5 rfl) ?_
    refine lv_iload hx hb dL_law_1727 (lv_at hl 0 rfl) ?_
    refine lv_iconst (v := 1) hx hb dL_law_1729 (by decide) ?_
    refine lv_iadd hx hb dL_law_1730 ?_
    refine m_sld (v := xs (4 * q + 1)) hx hb hC.hX hC.hbl hC.hbA hS (k := 4 * q + 1) (m_add rfl rfl) (by omega) hC.hL rfl dL_law_1731 ?_
    refine lv_aload_n hx hb dL_law_1732 rfl (lv_at hl 5 rfl) ?_
    refine lv_iload hx hb dL_law_1733 (lv_at hl 0 rfl) ?_
    refine lv_iconst (v := 2) hx hb dL_law_1735 (by decide) ?_
    refine lv_iadd hx hb dL_law_1736 ?_
    refine m_sld (v := xs (4 * q + 2)) hx hb hC.hX hC.hbl hC.hbA hS (k := 4 * q + 2) (m_add rfl rfl) (by omega) hC.hL rfl dL_law_1737 ?_
    refine lv_aload_n hx hb dL_law_1738 rfl (lv_at hl 2 rfl) ?_
    refine lw_w (mc := 1) (ms := 6) (Wc := (LCh cy a s9 s9)) (Wn := (LCh cy a S9 s9)) hC (w_heatAfter_1 l G cy kS vS a.aX a.na a.tr a.sn s9.hs a.hi a.sc s9.ep s9.fc a.ob s9.σ (xs (4 * q + 1)) (xs (4 * q + 2)) a.oA s9.fo hC.hl9 hI.1.1 hF) (vx_cwSW 4 hC.S9.2.2.2.2 gL_law_L_heatAfter rfl rfl rfl (by decide +kernel) ⟨Nat.le_of_ble_eq_true rfl, Nat.le_of_ble_eq_true rfl⟩) [0, 1, 24] rfl (by decide) (SameL.cons SameA.rf (SameL.cons SameA.rf (SameL.cons SameA.rf SameL.nil))) (by subst eS; rfl) hP hD hS rfl hl.1 rfl (Nat.le_of_ble_eq_true rfl) ⟨hc1, hs1⟩ dL_law_1739 (fun H locs hP hD hS => ?_)
    refine lv_istore (lv' := [(6, .int 1), (5, .int (nI (4 * q))), (4, .ref a.oD), (3, .ref a.oA), (2, .ref a.am), (1, .ref a.aX), (0, .ref b)]) hx hb dL_law_1742 hl (by decide) rfl (fun ls hl => ?_)
    refine lv_aload_n hx hb dL_law_1744 rfl (lv_at hl 4 rfl) ?_
    refine lv_aload_n hx hb dL_law_1745 rfl (lv_at hl 6 rfl) ?_
    refine lv_iload hx hb dL_law_1746 (lv_at hl 1 rfl) ?_
    refine lv_iconst (v := 1) hx hb dL_law_1748 (by decide) ?_
    refine lv_iadd hx hb dL_law_1749 ?_
    refine m_sld (v := xs (4 * q + 1)) hx hb hC.hX hC.hbl hC.hbA hS (k := 4 * q + 1) (m_add rfl rfl) (by omega) hC.hL rfl dL_law_1750 ?_
    refine lv_aload_n hx hb dL_law_1751 rfl (lv_at hl 6 rfl) ?_
    refine lv_iload hx hb dL_law_1752 (lv_at hl 1 rfl) ?_
    refine lv_iconst (v := 2) hx hb dL_law_1754 (by decide) ?_
    refine lv_iadd hx hb dL_law_1755 ?_
    refine m_sld (v := xs (4 * q + 2)) hx hb hC.hX hC.hbl hC.hbA hS (k := 4 * q + 2) (m_add rfl rfl) (by omega) hC.hL rfl dL_law_1756 ?_
    refine lw_m (s1 := S9) (t1 := s9) (Wn := (LCh cy a S9 S9)) hC (c_X8_heatAfter_no1 l G cy a.am a.aS a.aBf a.aAs a.aSv a.aPa a.aOu a.aTx a.aCo s9.ct s9.nb s9.LN ((s9.x0).1) s9.CM s9.hs s9.th (bI (s9.x0).2) s9.ep s9.fc s9.σ (xs (4 * q + 1)) (xs (4 * q + 2)) hI.1.1 hF) (cwV 2 hC.S9.2.2.2.2 gL_law_X8_heatAfter rfl rfl rfl (by decide +kernel) ⟨Nat.le_of_ble_eq_true rfl, Nat.le_of_ble_eq_true rfl⟩) [15, 16] rfl (by decide) (SameR.cons (SameR.cons SameR.nil)) (by subst eS; rfl) hP hD hS rfl hl.1 rfl (Nat.le_of_ble_eq_true rfl) ⟨hc1, hs1⟩ dL_law_1757 (fun H locs hP hD hS => ?_)
    refine lv_istore (lv' := [(7, .int 0), (6, .int 1), (5, .int (nI (4 * q))), (4, .ref a.oD), (3, .ref a.oA), (2, .ref a.am), (1, .ref a.aX), (0, .ref b)]) hx hb dL_law_1760 hl (by decide) rfl (fun ls hl => ?_)
    refine lv_aload_n hx hb dL_law_1762 rfl (lv_at hl 5 rfl) ?_
    refine lw_thrown (s1 := S9) (t1 := S9) (k := 1) hC hP (by subst eS; rfl) hl.1 (Nat.le_of_ble_eq_true rfl) ⟨hc1, hs1⟩ dL_law_1763 ?_
    refine lv_iload hx hb dL_law_1766 (lv_at hl 1 rfl) ?_
    refine lv_icmp_eq (tgt := 1773) hx hb dL_law_1768 (by decide) (fun c_1768 => ?_) (fun c_1768 => ?_)
    rotate_left
    · exact absurd c_1768 (by decide)
    refine lv_iload hx hb dL_law_1773 (lv_at hl 1 rfl) ?_
    refine lv_if_ne (tgt := 1790) hx hb dL_law_1775 (by decide) (fun c_1775 => ?_) (fun c_1775 => ?_)
    rotate_left
    · exact absurd c_1775 (by decide)
    refine lv_goto (tgt := 2890) hx hb dL_law_1790 (by decide) ?_
    exact kk S9 H locs ls (LI.of (LI.mono hI (by omega)) (by subst eS; rfl) (by subst eS; rfl) (by subst eS; rfl) (by subst eS; rfl) (by subst eS; rfl) (by subst eS; rfl) (by subst eS; rfl) (by subst eS; rfl) (by subst eS; rfl) (by subst eS; rfl) (by subst eS; rfl) (by subst eS; rfl) (by subst eS; rfl) (by subst eS; rfl) (by subst eS; rfl)) hP hD hS (lv_sub hl [2, 3, 4, 5, 6, 7] rfl)

set_option maxRecDepth 100000 in
set_option maxHeartbeats 4000000 in
theorem case_27 {p : Program} {l : Launch} {e : Env} {s : State} {m : MethodId} {below : List Frame} {meth : Method} {cq : Code} {G : va_G} {cy : Nat → ClassId} {kS vS : Nat → Nat} {A : Nat → Prop} {a : LA} {b L q : Nat} {xs : Nat → Int32} {Q : State → Prop} {n0 cells slots : Nat} (hC : LC l p s m meth cq G cy kS vS A b L xs) (hq : 4 * q + 4 ≤ L) (hn0 : n0 < 1000000) (hc1 : cells + 1 ≤ room_1.cells) (hs1 : slots + 6 ≤ room_1.slots) (kk : LGo p l e s m below meth cq G cy A a b q Q (n0 + 300) (cells + 1) (slots + 6) 2890) : LGo p l e s m below meth cq G cy A a b q Q n0 cells slots 1793 := by
  intro s9 H locs ls hI hP hD hS hl
  obtain ⟨hx, hb, hml, hown, hts⟩ := id hC.S9
  have hL9 := hC.hL
  have hc0 : cells + 0 ≤ room_1.cells := Nat.le_of_succ_le hc1
  have hcn : cells ≤ room_1.cells := Nat.le_of_succ_le hc1
  have hs0 : slots + 0 ≤ room_1.slots := Nat.le_trans (Nat.le_add_right slots 6) hs1
  have hsn : slots ≤ room_1.slots := Nat.le_trans (Nat.le_add_right slots 6) hs1
  have ho := hI.1.1
  have hN0 := ho.1
  have hM0 := ho.2.1
  have hE0 := ho.2.2.1
  have hnx := hI.2.2.2.2.1
  have hct := hI.2.2.2.2.2.1
  obtain ⟨S9, eS⟩ : ∃ z : LwS, z = (LwS.mk s9.σ s9.υ s9.ς s9.hs s9.ep s9.fc s9.ml 0 s9.nx s9.ct s9.nb s9.n s9.LN s9.CM s9.ρ s9.x s9.x0 s9.f s9.gk s9.g1 s9.g2 s9.g3 s9.fb s9.fB s9.fA s9.fV s9.fP s9.fO s9.g s9.fo s9.fd) := ⟨_, rfl⟩
  refine lv_aload_n hx hb dL_law_1793 rfl (lv_at hl 4 rfl) ?_
  refine c_roVi hC.S9 (c_X7_duckCount l G cy a.aX a.na a.tr a.sn s9.hs a.hi a.sc s9.ep s9.fc a.ob s9.σ hI.1.1) (cwV 0 hC.S9.2.2.2.2 gL_law_X7_duckCount rfl rfl rfl (by decide +kernel) ⟨Nat.le_of_ble_eq_true rfl, Nat.le_of_ble_eq_true rfl⟩) PB.blind (va_recv hC.hK.1 hP (ci := 11) (q0 := offs (LCh cy a s9 s9) 0 + 0) rfl ((fl_at (Wc := (LCh cy a s9 s9)) (j := 0) (i := 0) (c := [(a.aX, .inr (11, [.ref (a.na 0), .ref (a.tr 0), .ref (a.sn 0), .int s9.hs, .ref a.hi, .ref a.sc, .int s9.ep, .int s9.fc, .ref a.ob]))]) rfl (Nat.le_of_ble_eq_true rfl)).trans rfl)) (PB.at hC.hK (PpartC (Wc := (LCh cy a s9 s9)) (cs := [[(a.aX, .inr (11, [.ref (a.na 0), .ref (a.tr 0), .ref (a.sn 0), .int s9.hs, .ref a.hi, .ref a.sc, .int s9.ep, .int s9.fc, .ref a.ob]))], sWd cy a.na s9.σ]) hP [0, 1] rfl)) rfl hl.1 rfl (Nat.le_of_ble_eq_true rfl) ⟨hcn, hsn⟩ dL_law_1794 ?_
  refine lv_aload_n hx hb dL_law_1797 rfl (lv_at hl 3 rfl) ?_
  refine lw_m (s1 := s9) (t1 := s9) (Wn := (LCh cy a s9 S9)) hC (c_X8_duckCount l G cy a.am a.aS a.aBf a.aAs a.aSv a.aPa a.aOu a.aTx a.aCo s9.ct s9.nb s9.LN ((s9.x0).1) s9.CM s9.hs s9.th (bI (s9.x0).2) s9.ep s9.fc s9.σ hI.1.1) (cwV 0 hC.S9.2.2.2.2 gL_law_X8_duckCount rfl rfl rfl (by decide +kernel) ⟨Nat.le_of_ble_eq_true rfl, Nat.le_of_ble_eq_true rfl⟩) [15, 16] rfl (by decide) (SameR.cons (SameR.cons SameR.nil)) (by subst eS; rfl) hP hD hS rfl hl.1 rfl (Nat.le_of_ble_eq_true rfl) ⟨hcn, hsn⟩ dL_law_1798 (fun H locs hP hD hS => ?_)
  refine lv_icmp_eq (tgt := 2890) hx hb dL_law_1801 (by decide) (fun c_1801 => ?_) (fun c_1801 => ?_)
  rotate_left
  · exact absurd rfl c_1801
  have hP : va_P G vwCl (fl (LCh cy a S9 S9)) H := by rw [LCh.left (s := s9) (by subst eS; rfl) (by subst eS; rfl) (by subst eS; rfl) (by subst eS; rfl) (by subst eS; rfl) (by subst eS; rfl) (by subst eS; rfl) (by subst eS; rfl) (by subst eS; rfl) (by subst eS; rfl) (by subst eS; rfl) (by subst eS; rfl) (by subst eS; rfl) (by subst eS; rfl) (by subst eS; rfl) (by subst eS; rfl) (by subst eS; rfl) (by subst eS; rfl) (by subst eS; rfl) (by subst eS; rfl) (by subst eS; rfl) (by subst eS; rfl)]; exact hP
  have hD : va_D A (fl (LCh cy a S9 S9)) := by rw [LCh.left (s := s9) (by subst eS; rfl) (by subst eS; rfl) (by subst eS; rfl) (by subst eS; rfl) (by subst eS; rfl) (by subst eS; rfl) (by subst eS; rfl) (by subst eS; rfl) (by subst eS; rfl) (by subst eS; rfl) (by subst eS; rfl) (by subst eS; rfl) (by subst eS; rfl) (by subst eS; rfl) (by subst eS; rfl) (by subst eS; rfl) (by subst eS; rfl) (by subst eS; rfl) (by subst eS; rfl) (by subst eS; rfl) (by subst eS; rfl) (by subst eS; rfl)]; exact hD
  refine W.widen (k := cells + 1) (n := slots + 6) (by omega) (by omega) ?_
  exact kk S9 H locs ls (LI.of (LI.mono hI (by omega)) (by subst eS; rfl) (by subst eS; rfl) (by subst eS; rfl) (by subst eS; rfl) (by subst eS; rfl) (by subst eS; rfl) (by subst eS; rfl) (by subst eS; rfl) (by subst eS; rfl) (by subst eS; rfl) (by subst eS; rfl) (by subst eS; rfl) (by subst eS; rfl) (by subst eS; rfl) (by subst eS; rfl)) hP hD hS (lv_sub hl [0, 1, 2, 3, 4, 5] rfl)
