/-! indexOf -/
set_option maxRecDepth 100000 in
set_option maxHeartbeats 2000000 in
theorem s_canE (l : Launch) (G : va_G) (cy : Nat → ClassId) (kS vS : Nat → Nat) (c : Int32) (h0 : ¬ c < 0) (h1 : ¬ 255 < c) : RO l yJ1_canEncode_9a6ad wsL_law { frames := 1, cells := 0, slots := 0, locals := 40 } (PJ G cy kS vS ([])) [.int c] (some (.int 1)) := by
  refine RO.ofB (cc := cJ1_canEncode_9a6ad) (maxL := 1) (ret := (some .boolean)) (by decide) (big_at 43 14 rfl) (Nat.le_of_ble_eq_true rfl) ?_
  intro p e s m below meth cq S9 hr hlocks hPB ls hl
  obtain ⟨hx, hb, hml, hown, hts⟩ := id S9
  obtain ⟨⟨hP, hK⟩, hSK, hDZ⟩ := hPB
  have hS : va_S (va_A ([]) s.heap.size) s.heap s.heap [] := va_S.rf
  have hl : lv_has ls 1 [(0, .int c)] := hl
  refine lv_iload_n hx hb dJ1_canEncode_9a6ad_0 rfl (lv_at hl 0 rfl) ?_
  refine lv_if_lt (tgt := 15) hx hb dJ1_canEncode_9a6ad_1 (by decide) (fun c9 => absurd c9 h0) (fun _ => ?_)
  refine lv_iload_n hx hb dJ1_canEncode_9a6ad_4 rfl (lv_at hl 0 rfl) ?_
  refine lv_sipush (v := 255) hx hb dJ1_canEncode_9a6ad_5 (by decide) ?_
  refine lv_icmp_gt (tgt := 15) hx hb dJ1_canEncode_9a6ad_8 (by decide) (fun c9 => absurd c9 h1) (fun _ => ?_)
  refine lv_iconst (v := 1) hx hb dJ1_canEncode_9a6ad_11 (by decide) ?_
  refine lv_goto (tgt := 16) hx hb dJ1_canEncode_9a6ad_12 (by decide) ?_
  exact ro_zret hx hb hr hlocks rfl rfl dJ1_canEncode_9a6ad_16
set_option maxRecDepth 100000 in
set_option maxHeartbeats 2000000 in
theorem s_ixC0 (l : Launch) (G : va_G) (cy : Nat → ClassId) (kS vS : Nat → Nat)  : RO l yJ1_indexOfChar_4cfef wsL_law { frames := 1, cells := 0, slots := 0, locals := 40 } (PJ G cy kS vS ([])) [.ref (vS 15), .int 116, .int 0, .int 5] (some (.int 0)) := by
  refine RO.ofB (cc := cJ1_indexOfChar_4cfef) (maxL := 6) (ret := (some .int)) (by decide) (big_at 43 17 rfl) (Nat.le_of_ble_eq_true rfl) ?_
  intro p e s m below meth cq S9 hr hlocks hPB ls hl
  obtain ⟨hx, hb, hml, hown, hts⟩ := id S9
  obtain ⟨⟨hP, hK⟩, hSK, hDZ⟩ := hPB
  have hS : va_S (va_A ([]) s.heap.size) s.heap s.heap [] := va_S.rf
  have hl : lv_has ls 6 [(0, .ref (vS 15)), (1, .int 116), (2, .int 0), (3, .int 5)] := hl
  have hT : strI (ltS 15).length (ltS 15) (kS 15) (vS 15) (va_A [] s.heap.size) s s.heap := hSK.1.1 15 (by decide)
  have hP : va_P G vwCl [] s.heap := hP
  refine lv_iload_n hx hb dJ1_indexOfChar_4cfef_0 rfl (lv_at hl 1 rfl) ?_
  refine lv_i2b (v := 116) hx hb dJ1_indexOfChar_4cfef_1 (by decide) ?_
  refine lv_istore (lv' := [(4, .int 116), (0, .ref (vS 15)), (1, .int 116), (2, .int 0), (3, .int 5)]) hx hb dJ1_indexOfChar_4cfef_2 hl (by decide) rfl (fun ls hl => ?_)
  refine lv_iload_n hx hb dJ1_indexOfChar_4cfef_4 rfl (lv_at hl 3 rfl) ?_
  refine lv_istore (lv' := [(5, .int 0), (4, .int 116), (0, .ref (vS 15)), (1, .int 116), (2, .int 0), (3, .int 5)]) hx hb dJ1_indexOfChar_4cfef_5 hl (by decide) rfl (fun ls hl => ?_)
  refine lv_iload hx hb dJ1_indexOfChar_4cfef_7 (lv_at hl 0 rfl) ?_
  refine lv_iload_n hx hb dJ1_indexOfChar_4cfef_9 rfl (lv_at hl 5 rfl) ?_
  refine lv_icmp_ge (tgt := 31) hx hb dJ1_indexOfChar_4cfef_10 (by decide) (fun c9 => absurd c9 (by decide)) (fun _ => ?_)
  refine lv_aload_n hx hb dJ1_indexOfChar_4cfef_13 rfl (lv_at hl 2 rfl) ?_
  refine lv_iload hx hb dJ1_indexOfChar_4cfef_14 (lv_at hl 0 rfl) ?_
  refine va_tb hx hb hT.2.2.2 hS (i := nI 0) (v := .int 116) (vp_in_nI (show 0 < (ltS 15).length by decide) (by decide)) (by rw [nI_clamp (by omega)]; rfl) dJ1_indexOfChar_4cfef_16 ?_
  refine lv_iload hx hb dJ1_indexOfChar_4cfef_17 (lv_at hl 1 rfl) ?_
  refine lv_icmp_ne (tgt := 25) hx hb dJ1_indexOfChar_4cfef_19 (by decide) (fun c9 => absurd (by decide) c9) (fun _ => ?_)
  refine lv_iload hx hb dJ1_indexOfChar_4cfef_22 (lv_at hl 0 rfl) ?_
  exact ro_iret hx hb hr hlocks rfl dJ1_indexOfChar_4cfef_24
set_option maxRecDepth 100000 in
set_option maxHeartbeats 2000000 in
theorem s_ixB0 (l : Launch) (G : va_G) (cy : Nat → ClassId) (kS vS : Nat → Nat)  : RO l yJ1_indexOf_4cfef wsL_law { frames := 2, cells := 0, slots := 0, locals := 80 } (PJ G cy kS vS ([])) [.ref (vS 15), .int 116, .int 0, .int 5] (some (.int 0)) := by
  refine RO.ofB (cc := cJ1_indexOf_4cfef) (maxL := 4) (ret := (some .int)) (by decide) (big_at 43 9 rfl) (Nat.le_of_ble_eq_true rfl) ?_
  intro p e s m below meth cq S9 hr hlocks hPB ls hl
  obtain ⟨hx, hb, hml, hown, hts⟩ := id S9
  obtain ⟨⟨hP, hK⟩, hSK, hDZ⟩ := hPB
  have hS : va_S (va_A ([]) s.heap.size) s.heap s.heap [] := va_S.rf
  have hl : lv_has ls 4 [(0, .ref (vS 15)), (1, .int 116), (2, .int 0), (3, .int 5)] := hl
  have hT : strI (ltS 15).length (ltS 15) (kS 15) (vS 15) (va_A [] s.heap.size) s s.heap := hSK.1.1 15 (by decide)
  have hP : va_P G vwCl [] s.heap := hP
  refine lv_iload_n hx hb dJ1_indexOf_4cfef_0 rfl (lv_at hl 1 rfl) ?_
  refine m_ro (va_runS S9 (s_canE l G cy kS vS 116 (by decide) (by decide)) (bigS 1 hts (big_at 43 12 rfl) (big_at 35 6 rfl) (big_at 43 14 rfl) (big_at 43 13 rfl) rfl rfl (by decide +kernel) ⟨Nat.le_of_ble_eq_true rfl, Nat.le_of_ble_eq_true rfl⟩) ⟨fun b2 U g mk q => ⟨q.1, PJ.blind U g mk b2 q.2⟩, fun U hU hW => ⟨rfl, PJ.at hSK hDZ hS (fun q h => h) hK hP U hU hW⟩⟩ (g := F0 m _ ls _) rfl rfl hl.1 rfl (lv_room (Nat.le_of_ble_eq_true rfl)) dJ1_indexOf_4cfef_1 ⟨Nat.le_of_ble_eq_true rfl, Nat.le_of_ble_eq_true rfl⟩) ?_
  refine lv_if_ne (tgt := 9) hx hb dJ1_indexOf_4cfef_4 (by decide) (fun _ => ?_) (fun c9 => absurd c9 (by decide))
  refine lv_iload_n hx hb dJ1_indexOf_4cfef_9 rfl (lv_at hl 2 rfl) ?_
  refine lv_iconst (v := 0) hx hb dJ1_indexOf_4cfef_10 (by decide) ?_
  refine va_mmax hx hb (hml.trans hl.1.symm) hown (hts _ (big_at 43 10 rfl)) (hts _ (big_at 30 21 rfl)) (hts _ (big_at 6 21 rfl)) (hts _ (big_at 30 22 rfl)) (by decide) (Nat.le_of_ble_eq_true rfl) (Nat.zero_le _) (Nat.zero_le _) dJ1_indexOf_4cfef_11 ?_
  refine lv_t0 (show (if (0 : Int32) < 0 then (0 : Int32) else 0) = 0 from by decide) ?_
  refine lv_istore_n (lv' := [(2, .int 0), (0, .ref (vS 15)), (1, .int 116), (3, .int 5)]) hx hb dJ1_indexOf_4cfef_14 rfl hl (by decide) rfl (fun ls hl => ?_)
  refine lv_iload_n hx hb dJ1_indexOf_4cfef_15 rfl (lv_at hl 3 rfl) ?_
  refine lv_aload_n hx hb dJ1_indexOf_4cfef_16 rfl (lv_at hl 1 rfl) ?_
  refine va_tlen hx hb hT.2.2.2 hS (v := 5) rfl dJ1_indexOf_4cfef_17 ?_
  refine va_mmin hx hb (hml.trans hl.1.symm) hown (hts _ (big_at 43 11 rfl)) (hts _ (big_at 6 20 rfl)) (hts _ (big_at 6 21 rfl)) (hts _ (big_at 6 22 rfl)) (by decide) (Nat.le_of_ble_eq_true rfl) (Nat.zero_le _) (Nat.zero_le _) dJ1_indexOf_4cfef_18 ?_
  refine lv_t0 (show (if (5 : Int32) < 5 then (5 : Int32) else 5) = 5 from by decide) ?_
  refine lv_istore_n (lv' := [(3, .int 5), (2, .int 0), (0, .ref (vS 15)), (1, .int 116)]) hx hb dJ1_indexOf_4cfef_21 rfl hl (by decide) rfl (fun ls hl => ?_)
  refine lv_iload_n hx hb dJ1_indexOf_4cfef_22 rfl (lv_at hl 1 rfl) ?_
  refine lv_iload_n hx hb dJ1_indexOf_4cfef_23 rfl (lv_at hl 0 rfl) ?_
  refine lv_icmp_lt (tgt := 29) hx hb dJ1_indexOf_4cfef_24 (by decide) (fun _ => ?_) (fun c9 => absurd (by decide) c9)
  refine lv_aload_n hx hb dJ1_indexOf_4cfef_29 rfl (lv_at hl 2 rfl) ?_
  refine lv_iload_n hx hb dJ1_indexOf_4cfef_30 rfl (lv_at hl 3 rfl) ?_
  refine lv_iload_n hx hb dJ1_indexOf_4cfef_31 rfl (lv_at hl 1 rfl) ?_
  refine lv_iload_n hx hb dJ1_indexOf_4cfef_32 rfl (lv_at hl 0 rfl) ?_
  refine m_ro (va_runS S9 (s_ixC0 l G cy kS vS) (bigS 4 hts (big_at 43 15 rfl) (big_at 35 6 rfl) (big_at 43 17 rfl) (big_at 43 16 rfl) rfl rfl (by decide +kernel) ⟨Nat.le_of_ble_eq_true rfl, Nat.le_of_ble_eq_true rfl⟩) ⟨fun b2 U g mk q => ⟨q.1, PJ.blind U g mk b2 q.2⟩, fun U hU hW => ⟨rfl, PJ.at hSK hDZ hS (fun q h => h) hK hP U hU hW⟩⟩ (g := F0 m _ ls _) rfl rfl hl.1 rfl (lv_room (Nat.le_of_ble_eq_true rfl)) dJ1_indexOf_4cfef_33 ⟨Nat.le_of_ble_eq_true rfl, Nat.le_of_ble_eq_true rfl⟩) ?_
  exact ro_iret hx hb hr hlocks rfl dJ1_indexOf_4cfef_36
set_option maxRecDepth 100000 in
set_option maxHeartbeats 2000000 in
theorem s_ixA0 (l : Launch) (G : va_G) (cy : Nat → ClassId) (kS vS : Nat → Nat)  : RO l yJ0_indexOf_7cf53 wsL_law { frames := 3, cells := 0, slots := 0, locals := 140 } (PJ G cy kS vS ([])) [.ref (kS 15), .int 116, .int 0] (some (.int 0)) := by
  refine RO.ofB (cc := cJ0_indexOf_7cf53) (maxL := 3) (ret := (some .int)) (by decide) (big_at 43 5 rfl) (Nat.le_of_ble_eq_true rfl) ?_
  intro p e s m below meth cq S9 hr hlocks hPB ls hl
  obtain ⟨hx, hb, hml, hown, hts⟩ := id S9
  obtain ⟨⟨hP, hK⟩, hSK, hDZ⟩ := hPB
  have hS : va_S (va_A ([]) s.heap.size) s.heap s.heap [] := va_S.rf
  have hl : lv_has ls 3 [(0, .ref (kS 15)), (1, .int 116), (2, .int 0)] := hl
  have hT : strI (ltS 15).length (ltS 15) (kS 15) (vS 15) (va_A [] s.heap.size) s s.heap := hSK.1.1 15 (by decide)
  have hP : va_P G vwCl [] s.heap := hP
  refine lv_aload_n hx hb dJ0_indexOf_7cf53_0 rfl (lv_at hl 0 rfl) ?_
  refine m_ro (va_runV S9 (z_isLatin1 l G cy kS vS (ltS 15) (kS 15) (vS 15) (by decide)) (bigV 0 hts (big_at 41 21 rfl) (big_at 32 16 rfl) (big_at 42 0 rfl) (big_at 41 22 rfl) (big_at 41 23 rfl) rfl rfl (by decide +kernel) ⟨Nat.le_of_ble_eq_true rfl, Nat.le_of_ble_eq_true rfl⟩) ⟨fun b2 U g mk q => ⟨q.1, PTx.blind U g mk b2 q.2⟩, hT.recv, fun U hU hW => ⟨rfl, PTx.at hT hSK hDZ hS (fun q h => h) hK hP U hU hW⟩⟩ (g := F0 m _ ls _) rfl rfl hl.1 rfl (lv_room (Nat.le_of_ble_eq_true rfl)) dJ0_indexOf_7cf53_1 ⟨Nat.le_of_ble_eq_true rfl, Nat.le_of_ble_eq_true rfl⟩) ?_
  refine lv_if_eq (tgt := 23) hx hb dJ0_indexOf_7cf53_4 (by decide) (fun c9 => absurd c9 (by decide)) (fun _ => ?_)
  refine lv_aload_n hx hb dJ0_indexOf_7cf53_7 rfl (lv_at hl 0 rfl) ?_
  refine vk_getf hx hb (hT).2.2.1 hS hown (hts _ (big_at 34 5 rfl)) (fun _ h9 => h9) dJ0_indexOf_7cf53_8 ?_
  refine lv_iload_n hx hb dJ0_indexOf_7cf53_11 rfl (lv_at hl 1 rfl) ?_
  refine lv_iload_n hx hb dJ0_indexOf_7cf53_12 rfl (lv_at hl 2 rfl) ?_
  refine lv_aload_n hx hb dJ0_indexOf_7cf53_13 rfl (lv_at hl 0 rfl) ?_
  refine m_ro (va_runV S9 (z_length l G cy kS vS (ltS 15) (kS 15) (vS 15) (by decide)) (bigV 0 hts (big_at 43 6 rfl) (big_at 32 16 rfl) (big_at 34 4 rfl) (big_at 34 2 rfl) (big_at 34 3 rfl) rfl rfl (by decide +kernel) ⟨Nat.le_of_ble_eq_true rfl, Nat.le_of_ble_eq_true rfl⟩) ⟨fun b2 U g mk q => ⟨q.1, PTx.blind U g mk b2 q.2⟩, hT.recv, fun U hU hW => ⟨rfl, PTx.at hT hSK hDZ hS (fun q h => h) hK hP U hU hW⟩⟩ (g := F0 m _ ls _) rfl rfl hl.1 rfl (lv_room (Nat.le_of_ble_eq_true rfl)) dJ0_indexOf_7cf53_14 ⟨Nat.le_of_ble_eq_true rfl, Nat.le_of_ble_eq_true rfl⟩) ?_
  refine lv_t0 (show (nI (ltS 15).length) = 5 from by decide) ?_
  refine m_ro (va_runS S9 (s_ixB0 l G cy kS vS) (bigS 4 hts (big_at 43 7 rfl) (big_at 35 6 rfl) (big_at 43 9 rfl) (big_at 43 8 rfl) rfl rfl (by decide +kernel) ⟨Nat.le_of_ble_eq_true rfl, Nat.le_of_ble_eq_true rfl⟩) ⟨fun b2 U g mk q => ⟨q.1, PJ.blind U g mk b2 q.2⟩, fun U hU hW => ⟨rfl, PJ.at hSK hDZ hS (fun q h => h) hK hP U hU hW⟩⟩ (g := F0 m _ ls _) rfl rfl hl.1 rfl (lv_room (Nat.le_of_ble_eq_true rfl)) dJ0_indexOf_7cf53_17 ⟨Nat.le_of_ble_eq_true rfl, Nat.le_of_ble_eq_true rfl⟩) ?_
  refine lv_goto (tgt := 36) hx hb dJ0_indexOf_7cf53_20 (by decide) ?_
  exact ro_iret hx hb hr hlocks rfl dJ0_indexOf_7cf53_36
set_option maxRecDepth 100000 in
set_option maxHeartbeats 2000000 in
theorem z_ix0 (l : Launch) (G : va_G) (cy : Nat → ClassId) (kS vS : Nat → Nat)  : RO l yJ0_indexOf_0f7a4 wsL_law { frames := 4, cells := 0, slots := 0, locals := 180 } (PJ G cy kS vS ([])) [.ref (kS 15), .int 116] (some (.int 0)) := by
  refine RO.ofB (cc := cJ0_indexOf_0f7a4) (maxL := 2) (ret := (some .int)) (by decide) (big_at 43 1 rfl) (Nat.le_of_ble_eq_true rfl) ?_
  intro p e s m below meth cq S9 hr hlocks hPB ls hl
  obtain ⟨hx, hb, hml, hown, hts⟩ := id S9
  obtain ⟨⟨hP, hK⟩, hSK, hDZ⟩ := hPB
  have hS : va_S (va_A ([]) s.heap.size) s.heap s.heap [] := va_S.rf
  have hl : lv_has ls 2 [(0, .ref (kS 15)), (1, .int 116)] := hl
  have hT : strI (ltS 15).length (ltS 15) (kS 15) (vS 15) (va_A [] s.heap.size) s s.heap := hSK.1.1 15 (by decide)
  have hP : va_P G vwCl [] s.heap := hP
  refine lv_aload_n hx hb dJ0_indexOf_0f7a4_0 rfl (lv_at hl 0 rfl) ?_
  refine lv_iload_n hx hb dJ0_indexOf_0f7a4_1 rfl (lv_at hl 1 rfl) ?_
  refine lv_iconst (v := 0) hx hb dJ0_indexOf_0f7a4_2 (by decide) ?_
  refine m_ro (va_runV S9 (s_ixA0 l G cy kS vS) (bigV 2 hts (big_at 43 2 rfl) (big_at 32 16 rfl) (big_at 43 5 rfl) (big_at 43 3 rfl) (big_at 43 4 rfl) rfl rfl (by decide +kernel) ⟨Nat.le_of_ble_eq_true rfl, Nat.le_of_ble_eq_true rfl⟩) ⟨fun b2 U g mk q => ⟨q.1, PJ.blind U g mk b2 q.2⟩, hT.recv, fun U hU hW => ⟨rfl, PJ.at hSK hDZ hS (fun q h => h) hK hP U hU hW⟩⟩ (g := F0 m _ ls _) rfl rfl hl.1 rfl (lv_room (Nat.le_of_ble_eq_true rfl)) dJ0_indexOf_0f7a4_3 ⟨Nat.le_of_ble_eq_true rfl, Nat.le_of_ble_eq_true rfl⟩) ?_
  exact ro_iret hx hb hr hlocks rfl dJ0_indexOf_0f7a4_6
set_option maxRecDepth 100000 in
set_option maxHeartbeats 2000000 in
theorem s_ixC1 (l : Launch) (G : va_G) (cy : Nat → ClassId) (kS vS : Nat → Nat)  : RO l yJ1_indexOfChar_4cfef wsL_law { frames := 1, cells := 0, slots := 0, locals := 40 } (PJ G cy kS vS ([])) [.ref (vS 15), .int 112, .int 0, .int 5] (some (.int 1)) := by
  refine RO.ofB (cc := cJ1_indexOfChar_4cfef) (maxL := 6) (ret := (some .int)) (by decide) (big_at 43 17 rfl) (Nat.le_of_ble_eq_true rfl) ?_
  intro p e s m below meth cq S9 hr hlocks hPB ls hl
  obtain ⟨hx, hb, hml, hown, hts⟩ := id S9
  obtain ⟨⟨hP, hK⟩, hSK, hDZ⟩ := hPB
  have hS : va_S (va_A ([]) s.heap.size) s.heap s.heap [] := va_S.rf
  have hl : lv_has ls 6 [(0, .ref (vS 15)), (1, .int 112), (2, .int 0), (3, .int 5)] := hl
  have hT : strI (ltS 15).length (ltS 15) (kS 15) (vS 15) (va_A [] s.heap.size) s s.heap := hSK.1.1 15 (by decide)
  have hP : va_P G vwCl [] s.heap := hP
  refine lv_iload_n hx hb dJ1_indexOfChar_4cfef_0 rfl (lv_at hl 1 rfl) ?_
  refine lv_i2b (v := 112) hx hb dJ1_indexOfChar_4cfef_1 (by decide) ?_
  refine lv_istore (lv' := [(4, .int 112), (0, .ref (vS 15)), (1, .int 112), (2, .int 0), (3, .int 5)]) hx hb dJ1_indexOfChar_4cfef_2 hl (by decide) rfl (fun ls hl => ?_)
  refine lv_iload_n hx hb dJ1_indexOfChar_4cfef_4 rfl (lv_at hl 3 rfl) ?_
  refine lv_istore (lv' := [(5, .int 0), (4, .int 112), (0, .ref (vS 15)), (1, .int 112), (2, .int 0), (3, .int 5)]) hx hb dJ1_indexOfChar_4cfef_5 hl (by decide) rfl (fun ls hl => ?_)
  refine lv_iload hx hb dJ1_indexOfChar_4cfef_7 (lv_at hl 0 rfl) ?_
  refine lv_iload_n hx hb dJ1_indexOfChar_4cfef_9 rfl (lv_at hl 5 rfl) ?_
  refine lv_icmp_ge (tgt := 31) hx hb dJ1_indexOfChar_4cfef_10 (by decide) (fun c9 => absurd c9 (by decide)) (fun _ => ?_)
  refine lv_aload_n hx hb dJ1_indexOfChar_4cfef_13 rfl (lv_at hl 2 rfl) ?_
  refine lv_iload hx hb dJ1_indexOfChar_4cfef_14 (lv_at hl 0 rfl) ?_
  refine va_tb hx hb hT.2.2.2 hS (i := nI 0) (v := .int 116) (vp_in_nI (show 0 < (ltS 15).length by decide) (by decide)) (by rw [nI_clamp (by omega)]; rfl) dJ1_indexOfChar_4cfef_16 ?_
  refine lv_iload hx hb dJ1_indexOfChar_4cfef_17 (lv_at hl 1 rfl) ?_
  refine lv_icmp_ne (tgt := 25) hx hb dJ1_indexOfChar_4cfef_19 (by decide) (fun _ => ?_) (fun c9 => absurd c9 (by decide))
  refine lv_iinc (v := 1) (lv' := [(5, .int 1), (4, .int 112), (0, .ref (vS 15)), (1, .int 112), (2, .int 0), (3, .int 5)]) hx hb dJ1_indexOfChar_4cfef_25 hl (k := 0) rfl (by decide) (by decide) rfl (fun ls hl => ?_)
  refine lv_goto (tgt := 7) hx hb dJ1_indexOfChar_4cfef_28 (by decide) ?_
  refine lv_iload hx hb dJ1_indexOfChar_4cfef_7 (lv_at hl 0 rfl) ?_
  refine lv_iload_n hx hb dJ1_indexOfChar_4cfef_9 rfl (lv_at hl 5 rfl) ?_
  refine lv_icmp_ge (tgt := 31) hx hb dJ1_indexOfChar_4cfef_10 (by decide) (fun c9 => absurd c9 (by decide)) (fun _ => ?_)
  refine lv_aload_n hx hb dJ1_indexOfChar_4cfef_13 rfl (lv_at hl 2 rfl) ?_
  refine lv_iload hx hb dJ1_indexOfChar_4cfef_14 (lv_at hl 0 rfl) ?_
  refine va_tb hx hb hT.2.2.2 hS (i := nI 1) (v := .int 112) (vp_in_nI (show 1 < (ltS 15).length by decide) (by decide)) (by rw [nI_clamp (by omega)]; rfl) dJ1_indexOfChar_4cfef_16 ?_
  refine lv_iload hx hb dJ1_indexOfChar_4cfef_17 (lv_at hl 1 rfl) ?_
  refine lv_icmp_ne (tgt := 25) hx hb dJ1_indexOfChar_4cfef_19 (by decide) (fun c9 => absurd (by decide) c9) (fun _ => ?_)
  refine lv_iload hx hb dJ1_indexOfChar_4cfef_22 (lv_at hl 0 rfl) ?_
  exact ro_iret hx hb hr hlocks rfl dJ1_indexOfChar_4cfef_24
set_option maxRecDepth 100000 in
set_option maxHeartbeats 2000000 in
theorem s_ixB1 (l : Launch) (G : va_G) (cy : Nat → ClassId) (kS vS : Nat → Nat)  : RO l yJ1_indexOf_4cfef wsL_law { frames := 2, cells := 0, slots := 0, locals := 80 } (PJ G cy kS vS ([])) [.ref (vS 15), .int 112, .int 0, .int 5] (some (.int 1)) := by
  refine RO.ofB (cc := cJ1_indexOf_4cfef) (maxL := 4) (ret := (some .int)) (by decide) (big_at 43 9 rfl) (Nat.le_of_ble_eq_true rfl) ?_
  intro p e s m below meth cq S9 hr hlocks hPB ls hl
  obtain ⟨hx, hb, hml, hown, hts⟩ := id S9
  obtain ⟨⟨hP, hK⟩, hSK, hDZ⟩ := hPB
  have hS : va_S (va_A ([]) s.heap.size) s.heap s.heap [] := va_S.rf
  have hl : lv_has ls 4 [(0, .ref (vS 15)), (1, .int 112), (2, .int 0), (3, .int 5)] := hl
  have hT : strI (ltS 15).length (ltS 15) (kS 15) (vS 15) (va_A [] s.heap.size) s s.heap := hSK.1.1 15 (by decide)
  have hP : va_P G vwCl [] s.heap := hP
  refine lv_iload_n hx hb dJ1_indexOf_4cfef_0 rfl (lv_at hl 1 rfl) ?_
  refine m_ro (va_runS S9 (s_canE l G cy kS vS 112 (by decide) (by decide)) (bigS 1 hts (big_at 43 12 rfl) (big_at 35 6 rfl) (big_at 43 14 rfl) (big_at 43 13 rfl) rfl rfl (by decide +kernel) ⟨Nat.le_of_ble_eq_true rfl, Nat.le_of_ble_eq_true rfl⟩) ⟨fun b2 U g mk q => ⟨q.1, PJ.blind U g mk b2 q.2⟩, fun U hU hW => ⟨rfl, PJ.at hSK hDZ hS (fun q h => h) hK hP U hU hW⟩⟩ (g := F0 m _ ls _) rfl rfl hl.1 rfl (lv_room (Nat.le_of_ble_eq_true rfl)) dJ1_indexOf_4cfef_1 ⟨Nat.le_of_ble_eq_true rfl, Nat.le_of_ble_eq_true rfl⟩) ?_
  refine lv_if_ne (tgt := 9) hx hb dJ1_indexOf_4cfef_4 (by decide) (fun _ => ?_) (fun c9 => absurd c9 (by decide))
  refine lv_iload_n hx hb dJ1_indexOf_4cfef_9 rfl (lv_at hl 2 rfl) ?_
  refine lv_iconst (v := 0) hx hb dJ1_indexOf_4cfef_10 (by decide) ?_
  refine va_mmax hx hb (hml.trans hl.1.symm) hown (hts _ (big_at 43 10 rfl)) (hts _ (big_at 30 21 rfl)) (hts _ (big_at 6 21 rfl)) (hts _ (big_at 30 22 rfl)) (by decide) (Nat.le_of_ble_eq_true rfl) (Nat.zero_le _) (Nat.zero_le _) dJ1_indexOf_4cfef_11 ?_
  refine lv_t0 (show (if (0 : Int32) < 0 then (0 : Int32) else 0) = 0 from by decide) ?_
  refine lv_istore_n (lv' := [(2, .int 0), (0, .ref (vS 15)), (1, .int 112), (3, .int 5)]) hx hb dJ1_indexOf_4cfef_14 rfl hl (by decide) rfl (fun ls hl => ?_)
  refine lv_iload_n hx hb dJ1_indexOf_4cfef_15 rfl (lv_at hl 3 rfl) ?_
  refine lv_aload_n hx hb dJ1_indexOf_4cfef_16 rfl (lv_at hl 1 rfl) ?_
  refine va_tlen hx hb hT.2.2.2 hS (v := 5) rfl dJ1_indexOf_4cfef_17 ?_
  refine va_mmin hx hb (hml.trans hl.1.symm) hown (hts _ (big_at 43 11 rfl)) (hts _ (big_at 6 20 rfl)) (hts _ (big_at 6 21 rfl)) (hts _ (big_at 6 22 rfl)) (by decide) (Nat.le_of_ble_eq_true rfl) (Nat.zero_le _) (Nat.zero_le _) dJ1_indexOf_4cfef_18 ?_
  refine lv_t0 (show (if (5 : Int32) < 5 then (5 : Int32) else 5) = 5 from by decide) ?_
  refine lv_istore_n (lv' := [(3, .int 5), (2, .int 0), (0, .ref (vS 15)), (1, .int 112)]) hx hb dJ1_indexOf_4cfef_21 rfl hl (by decide) rfl (fun ls hl => ?_)
  refine lv_iload_n hx hb dJ1_indexOf_4cfef_22 rfl (lv_at hl 1 rfl) ?_
  refine lv_iload_n hx hb dJ1_indexOf_4cfef_23 rfl (lv_at hl 0 rfl) ?_
  refine lv_icmp_lt (tgt := 29) hx hb dJ1_indexOf_4cfef_24 (by decide) (fun _ => ?_) (fun c9 => absurd (by decide) c9)
  refine lv_aload_n hx hb dJ1_indexOf_4cfef_29 rfl (lv_at hl 2 rfl) ?_
  refine lv_iload_n hx hb dJ1_indexOf_4cfef_30 rfl (lv_at hl 3 rfl) ?_
  refine lv_iload_n hx hb dJ1_indexOf_4cfef_31 rfl (lv_at hl 1 rfl) ?_
  refine lv_iload_n hx hb dJ1_indexOf_4cfef_32 rfl (lv_at hl 0 rfl) ?_
  refine m_ro (va_runS S9 (s_ixC1 l G cy kS vS) (bigS 4 hts (big_at 43 15 rfl) (big_at 35 6 rfl) (big_at 43 17 rfl) (big_at 43 16 rfl) rfl rfl (by decide +kernel) ⟨Nat.le_of_ble_eq_true rfl, Nat.le_of_ble_eq_true rfl⟩) ⟨fun b2 U g mk q => ⟨q.1, PJ.blind U g mk b2 q.2⟩, fun U hU hW => ⟨rfl, PJ.at hSK hDZ hS (fun q h => h) hK hP U hU hW⟩⟩ (g := F0 m _ ls _) rfl rfl hl.1 rfl (lv_room (Nat.le_of_ble_eq_true rfl)) dJ1_indexOf_4cfef_33 ⟨Nat.le_of_ble_eq_true rfl, Nat.le_of_ble_eq_true rfl⟩) ?_
  exact ro_iret hx hb hr hlocks rfl dJ1_indexOf_4cfef_36
set_option maxRecDepth 100000 in
set_option maxHeartbeats 2000000 in
theorem s_ixA1 (l : Launch) (G : va_G) (cy : Nat → ClassId) (kS vS : Nat → Nat)  : RO l yJ0_indexOf_7cf53 wsL_law { frames := 3, cells := 0, slots := 0, locals := 140 } (PJ G cy kS vS ([])) [.ref (kS 15), .int 112, .int 0] (some (.int 1)) := by
  refine RO.ofB (cc := cJ0_indexOf_7cf53) (maxL := 3) (ret := (some .int)) (by decide) (big_at 43 5 rfl) (Nat.le_of_ble_eq_true rfl) ?_
  intro p e s m below meth cq S9 hr hlocks hPB ls hl
  obtain ⟨hx, hb, hml, hown, hts⟩ := id S9
  obtain ⟨⟨hP, hK⟩, hSK, hDZ⟩ := hPB
  have hS : va_S (va_A ([]) s.heap.size) s.heap s.heap [] := va_S.rf
  have hl : lv_has ls 3 [(0, .ref (kS 15)), (1, .int 112), (2, .int 0)] := hl
  have hT : strI (ltS 15).length (ltS 15) (kS 15) (vS 15) (va_A [] s.heap.size) s s.heap := hSK.1.1 15 (by decide)
  have hP : va_P G vwCl [] s.heap := hP
  refine lv_aload_n hx hb dJ0_indexOf_7cf53_0 rfl (lv_at hl 0 rfl) ?_
  refine m_ro (va_runV S9 (z_isLatin1 l G cy kS vS (ltS 15) (kS 15) (vS 15) (by decide)) (bigV 0 hts (big_at 41 21 rfl) (big_at 32 16 rfl) (big_at 42 0 rfl) (big_at 41 22 rfl) (big_at 41 23 rfl) rfl rfl (by decide +kernel) ⟨Nat.le_of_ble_eq_true rfl, Nat.le_of_ble_eq_true rfl⟩) ⟨fun b2 U g mk q => ⟨q.1, PTx.blind U g mk b2 q.2⟩, hT.recv, fun U hU hW => ⟨rfl, PTx.at hT hSK hDZ hS (fun q h => h) hK hP U hU hW⟩⟩ (g := F0 m _ ls _) rfl rfl hl.1 rfl (lv_room (Nat.le_of_ble_eq_true rfl)) dJ0_indexOf_7cf53_1 ⟨Nat.le_of_ble_eq_true rfl, Nat.le_of_ble_eq_true rfl⟩) ?_
  refine lv_if_eq (tgt := 23) hx hb dJ0_indexOf_7cf53_4 (by decide) (fun c9 => absurd c9 (by decide)) (fun _ => ?_)
  refine lv_aload_n hx hb dJ0_indexOf_7cf53_7 rfl (lv_at hl 0 rfl) ?_
  refine vk_getf hx hb (hT).2.2.1 hS hown (hts _ (big_at 34 5 rfl)) (fun _ h9 => h9) dJ0_indexOf_7cf53_8 ?_
  refine lv_iload_n hx hb dJ0_indexOf_7cf53_11 rfl (lv_at hl 1 rfl) ?_
  refine lv_iload_n hx hb dJ0_indexOf_7cf53_12 rfl (lv_at hl 2 rfl) ?_
  refine lv_aload_n hx hb dJ0_indexOf_7cf53_13 rfl (lv_at hl 0 rfl) ?_
  refine m_ro (va_runV S9 (z_length l G cy kS vS (ltS 15) (kS 15) (vS 15) (by decide)) (bigV 0 hts (big_at 43 6 rfl) (big_at 32 16 rfl) (big_at 34 4 rfl) (big_at 34 2 rfl) (big_at 34 3 rfl) rfl rfl (by decide +kernel) ⟨Nat.le_of_ble_eq_true rfl, Nat.le_of_ble_eq_true rfl⟩) ⟨fun b2 U g mk q => ⟨q.1, PTx.blind U g mk b2 q.2⟩, hT.recv, fun U hU hW => ⟨rfl, PTx.at hT hSK hDZ hS (fun q h => h) hK hP U hU hW⟩⟩ (g := F0 m _ ls _) rfl rfl hl.1 rfl (lv_room (Nat.le_of_ble_eq_true rfl)) dJ0_indexOf_7cf53_14 ⟨Nat.le_of_ble_eq_true rfl, Nat.le_of_ble_eq_true rfl⟩) ?_
  refine lv_t0 (show (nI (ltS 15).length) = 5 from by decide) ?_
  refine m_ro (va_runS S9 (s_ixB1 l G cy kS vS) (bigS 4 hts (big_at 43 7 rfl) (big_at 35 6 rfl) (big_at 43 9 rfl) (big_at 43 8 rfl) rfl rfl (by decide +kernel) ⟨Nat.le_of_ble_eq_true rfl, Nat.le_of_ble_eq_true rfl⟩) ⟨fun b2 U g mk q => ⟨q.1, PJ.blind U g mk b2 q.2⟩, fun U hU hW => ⟨rfl, PJ.at hSK hDZ hS (fun q h => h) hK hP U hU hW⟩⟩ (g := F0 m _ ls _) rfl rfl hl.1 rfl (lv_room (Nat.le_of_ble_eq_true rfl)) dJ0_indexOf_7cf53_17 ⟨Nat.le_of_ble_eq_true rfl, Nat.le_of_ble_eq_true rfl⟩) ?_
  refine lv_goto (tgt := 36) hx hb dJ0_indexOf_7cf53_20 (by decide) ?_
  exact ro_iret hx hb hr hlocks rfl dJ0_indexOf_7cf53_36
set_option maxRecDepth 100000 in
set_option maxHeartbeats 2000000 in
theorem z_ix1 (l : Launch) (G : va_G) (cy : Nat → ClassId) (kS vS : Nat → Nat)  : RO l yJ0_indexOf_0f7a4 wsL_law { frames := 4, cells := 0, slots := 0, locals := 180 } (PJ G cy kS vS ([])) [.ref (kS 15), .int 112] (some (.int 1)) := by
  refine RO.ofB (cc := cJ0_indexOf_0f7a4) (maxL := 2) (ret := (some .int)) (by decide) (big_at 43 1 rfl) (Nat.le_of_ble_eq_true rfl) ?_
  intro p e s m below meth cq S9 hr hlocks hPB ls hl
  obtain ⟨hx, hb, hml, hown, hts⟩ := id S9
  obtain ⟨⟨hP, hK⟩, hSK, hDZ⟩ := hPB
  have hS : va_S (va_A ([]) s.heap.size) s.heap s.heap [] := va_S.rf
  have hl : lv_has ls 2 [(0, .ref (kS 15)), (1, .int 112)] := hl
  have hT : strI (ltS 15).length (ltS 15) (kS 15) (vS 15) (va_A [] s.heap.size) s s.heap := hSK.1.1 15 (by decide)
  have hP : va_P G vwCl [] s.heap := hP
  refine lv_aload_n hx hb dJ0_indexOf_0f7a4_0 rfl (lv_at hl 0 rfl) ?_
  refine lv_iload_n hx hb dJ0_indexOf_0f7a4_1 rfl (lv_at hl 1 rfl) ?_
  refine lv_iconst (v := 0) hx hb dJ0_indexOf_0f7a4_2 (by decide) ?_
  refine m_ro (va_runV S9 (s_ixA1 l G cy kS vS) (bigV 2 hts (big_at 43 2 rfl) (big_at 32 16 rfl) (big_at 43 5 rfl) (big_at 43 3 rfl) (big_at 43 4 rfl) rfl rfl (by decide +kernel) ⟨Nat.le_of_ble_eq_true rfl, Nat.le_of_ble_eq_true rfl⟩) ⟨fun b2 U g mk q => ⟨q.1, PJ.blind U g mk b2 q.2⟩, hT.recv, fun U hU hW => ⟨rfl, PJ.at hSK hDZ hS (fun q h => h) hK hP U hU hW⟩⟩ (g := F0 m _ ls _) rfl rfl hl.1 rfl (lv_room (Nat.le_of_ble_eq_true rfl)) dJ0_indexOf_0f7a4_3 ⟨Nat.le_of_ble_eq_true rfl, Nat.le_of_ble_eq_true rfl⟩) ?_
  exact ro_iret hx hb hr hlocks rfl dJ0_indexOf_0f7a4_6
set_option maxRecDepth 100000 in
set_option maxHeartbeats 2000000 in
theorem s_ixC2 (l : Launch) (G : va_G) (cy : Nat → ClassId) (kS vS : Nat → Nat)  : RO l yJ1_indexOfChar_4cfef wsL_law { frames := 1, cells := 0, slots := 0, locals := 40 } (PJ G cy kS vS ([])) [.ref (vS 15), .int 106, .int 0, .int 5] (some (.int 2)) := by
  refine RO.ofB (cc := cJ1_indexOfChar_4cfef) (maxL := 6) (ret := (some .int)) (by decide) (big_at 43 17 rfl) (Nat.le_of_ble_eq_true rfl) ?_
  intro p e s m below meth cq S9 hr hlocks hPB ls hl
  obtain ⟨hx, hb, hml, hown, hts⟩ := id S9
  obtain ⟨⟨hP, hK⟩, hSK, hDZ⟩ := hPB
  have hS : va_S (va_A ([]) s.heap.size) s.heap s.heap [] := va_S.rf
  have hl : lv_has ls 6 [(0, .ref (vS 15)), (1, .int 106), (2, .int 0), (3, .int 5)] := hl
  have hT : strI (ltS 15).length (ltS 15) (kS 15) (vS 15) (va_A [] s.heap.size) s s.heap := hSK.1.1 15 (by decide)
  have hP : va_P G vwCl [] s.heap := hP
  refine lv_iload_n hx hb dJ1_indexOfChar_4cfef_0 rfl (lv_at hl 1 rfl) ?_
  refine lv_i2b (v := 106) hx hb dJ1_indexOfChar_4cfef_1 (by decide) ?_
  refine lv_istore (lv' := [(4, .int 106), (0, .ref (vS 15)), (1, .int 106), (2, .int 0), (3, .int 5)]) hx hb dJ1_indexOfChar_4cfef_2 hl (by decide) rfl (fun ls hl => ?_)
  refine lv_iload_n hx hb dJ1_indexOfChar_4cfef_4 rfl (lv_at hl 3 rfl) ?_
  refine lv_istore (lv' := [(5, .int 0), (4, .int 106), (0, .ref (vS 15)), (1, .int 106), (2, .int 0), (3, .int 5)]) hx hb dJ1_indexOfChar_4cfef_5 hl (by decide) rfl (fun ls hl => ?_)
  refine lv_iload hx hb dJ1_indexOfChar_4cfef_7 (lv_at hl 0 rfl) ?_
  refine lv_iload_n hx hb dJ1_indexOfChar_4cfef_9 rfl (lv_at hl 5 rfl) ?_
  refine lv_icmp_ge (tgt := 31) hx hb dJ1_indexOfChar_4cfef_10 (by decide) (fun c9 => absurd c9 (by decide)) (fun _ => ?_)
  refine lv_aload_n hx hb dJ1_indexOfChar_4cfef_13 rfl (lv_at hl 2 rfl) ?_
  refine lv_iload hx hb dJ1_indexOfChar_4cfef_14 (lv_at hl 0 rfl) ?_
  refine va_tb hx hb hT.2.2.2 hS (i := nI 0) (v := .int 116) (vp_in_nI (show 0 < (ltS 15).length by decide) (by decide)) (by rw [nI_clamp (by omega)]; rfl) dJ1_indexOfChar_4cfef_16 ?_
  refine lv_iload hx hb dJ1_indexOfChar_4cfef_17 (lv_at hl 1 rfl) ?_
  refine lv_icmp_ne (tgt := 25) hx hb dJ1_indexOfChar_4cfef_19 (by decide) (fun _ => ?_) (fun c9 => absurd c9 (by decide))
  refine lv_iinc (v := 1) (lv' := [(5, .int 1), (4, .int 106), (0, .ref (vS 15)), (1, .int 106), (2, .int 0), (3, .int 5)]) hx hb dJ1_indexOfChar_4cfef_25 hl (k := 0) rfl (by decide) (by decide) rfl (fun ls hl => ?_)
  refine lv_goto (tgt := 7) hx hb dJ1_indexOfChar_4cfef_28 (by decide) ?_
  refine lv_iload hx hb dJ1_indexOfChar_4cfef_7 (lv_at hl 0 rfl) ?_
  refine lv_iload_n hx hb dJ1_indexOfChar_4cfef_9 rfl (lv_at hl 5 rfl) ?_
  refine lv_icmp_ge (tgt := 31) hx hb dJ1_indexOfChar_4cfef_10 (by decide) (fun c9 => absurd c9 (by decide)) (fun _ => ?_)
  refine lv_aload_n hx hb dJ1_indexOfChar_4cfef_13 rfl (lv_at hl 2 rfl) ?_
  refine lv_iload hx hb dJ1_indexOfChar_4cfef_14 (lv_at hl 0 rfl) ?_
  refine va_tb hx hb hT.2.2.2 hS (i := nI 1) (v := .int 112) (vp_in_nI (show 1 < (ltS 15).length by decide) (by decide)) (by rw [nI_clamp (by omega)]; rfl) dJ1_indexOfChar_4cfef_16 ?_
  refine lv_iload hx hb dJ1_indexOfChar_4cfef_17 (lv_at hl 1 rfl) ?_
  refine lv_icmp_ne (tgt := 25) hx hb dJ1_indexOfChar_4cfef_19 (by decide) (fun _ => ?_) (fun c9 => absurd c9 (by decide))
  refine lv_iinc (v := 2) (lv' := [(5, .int 2), (4, .int 106), (0, .ref (vS 15)), (1, .int 106), (2, .int 0), (3, .int 5)]) hx hb dJ1_indexOfChar_4cfef_25 hl (k := 0) rfl (by decide) (by decide) rfl (fun ls hl => ?_)
  refine lv_goto (tgt := 7) hx hb dJ1_indexOfChar_4cfef_28 (by decide) ?_
  refine lv_iload hx hb dJ1_indexOfChar_4cfef_7 (lv_at hl 0 rfl) ?_
  refine lv_iload_n hx hb dJ1_indexOfChar_4cfef_9 rfl (lv_at hl 5 rfl) ?_
  refine lv_icmp_ge (tgt := 31) hx hb dJ1_indexOfChar_4cfef_10 (by decide) (fun c9 => absurd c9 (by decide)) (fun _ => ?_)
  refine lv_aload_n hx hb dJ1_indexOfChar_4cfef_13 rfl (lv_at hl 2 rfl) ?_
  refine lv_iload hx hb dJ1_indexOfChar_4cfef_14 (lv_at hl 0 rfl) ?_
  refine va_tb hx hb hT.2.2.2 hS (i := nI 2) (v := .int 106) (vp_in_nI (show 2 < (ltS 15).length by decide) (by decide)) (by rw [nI_clamp (by omega)]; rfl) dJ1_indexOfChar_4cfef_16 ?_
  refine lv_iload hx hb dJ1_indexOfChar_4cfef_17 (lv_at hl 1 rfl) ?_
  refine lv_icmp_ne (tgt := 25) hx hb dJ1_indexOfChar_4cfef_19 (by decide) (fun c9 => absurd (by decide) c9) (fun _ => ?_)
  refine lv_iload hx hb dJ1_indexOfChar_4cfef_22 (lv_at hl 0 rfl) ?_
  exact ro_iret hx hb hr hlocks rfl dJ1_indexOfChar_4cfef_24
set_option maxRecDepth 100000 in
set_option maxHeartbeats 2000000 in
theorem s_ixB2 (l : Launch) (G : va_G) (cy : Nat → ClassId) (kS vS : Nat → Nat)  : RO l yJ1_indexOf_4cfef wsL_law { frames := 2, cells := 0, slots := 0, locals := 80 } (PJ G cy kS vS ([])) [.ref (vS 15), .int 106, .int 0, .int 5] (some (.int 2)) := by
  refine RO.ofB (cc := cJ1_indexOf_4cfef) (maxL := 4) (ret := (some .int)) (by decide) (big_at 43 9 rfl) (Nat.le_of_ble_eq_true rfl) ?_
  intro p e s m below meth cq S9 hr hlocks hPB ls hl
  obtain ⟨hx, hb, hml, hown, hts⟩ := id S9
  obtain ⟨⟨hP, hK⟩, hSK, hDZ⟩ := hPB
  have hS : va_S (va_A ([]) s.heap.size) s.heap s.heap [] := va_S.rf
  have hl : lv_has ls 4 [(0, .ref (vS 15)), (1, .int 106), (2, .int 0), (3, .int 5)] := hl
  have hT : strI (ltS 15).length (ltS 15) (kS 15) (vS 15) (va_A [] s.heap.size) s s.heap := hSK.1.1 15 (by decide)
  have hP : va_P G vwCl [] s.heap := hP
  refine lv_iload_n hx hb dJ1_indexOf_4cfef_0 rfl (lv_at hl 1 rfl) ?_
  refine m_ro (va_runS S9 (s_canE l G cy kS vS 106 (by decide) (by decide)) (bigS 1 hts (big_at 43 12 rfl) (big_at 35 6 rfl) (big_at 43 14 rfl) (big_at 43 13 rfl) rfl rfl (by decide +kernel) ⟨Nat.le_of_ble_eq_true rfl, Nat.le_of_ble_eq_true rfl⟩) ⟨fun b2 U g mk q => ⟨q.1, PJ.blind U g mk b2 q.2⟩, fun U hU hW => ⟨rfl, PJ.at hSK hDZ hS (fun q h => h) hK hP U hU hW⟩⟩ (g := F0 m _ ls _) rfl rfl hl.1 rfl (lv_room (Nat.le_of_ble_eq_true rfl)) dJ1_indexOf_4cfef_1 ⟨Nat.le_of_ble_eq_true rfl, Nat.le_of_ble_eq_true rfl⟩) ?_
  refine lv_if_ne (tgt := 9) hx hb dJ1_indexOf_4cfef_4 (by decide) (fun _ => ?_) (fun c9 => absurd c9 (by decide))
  refine lv_iload_n hx hb dJ1_indexOf_4cfef_9 rfl (lv_at hl 2 rfl) ?_
  refine lv_iconst (v := 0) hx hb dJ1_indexOf_4cfef_10 (by decide) ?_
  refine va_mmax hx hb (hml.trans hl.1.symm) hown (hts _ (big_at 43 10 rfl)) (hts _ (big_at 30 21 rfl)) (hts _ (big_at 6 21 rfl)) (hts _ (big_at 30 22 rfl)) (by decide) (Nat.le_of_ble_eq_true rfl) (Nat.zero_le _) (Nat.zero_le _) dJ1_indexOf_4cfef_11 ?_
  refine lv_t0 (show (if (0 : Int32) < 0 then (0 : Int32) else 0) = 0 from by decide) ?_
  refine lv_istore_n (lv' := [(2, .int 0), (0, .ref (vS 15)), (1, .int 106), (3, .int 5)]) hx hb dJ1_indexOf_4cfef_14 rfl hl (by decide) rfl (fun ls hl => ?_)
  refine lv_iload_n hx hb dJ1_indexOf_4cfef_15 rfl (lv_at hl 3 rfl) ?_
  refine lv_aload_n hx hb dJ1_indexOf_4cfef_16 rfl (lv_at hl 1 rfl) ?_
  refine va_tlen hx hb hT.2.2.2 hS (v := 5) rfl dJ1_indexOf_4cfef_17 ?_
  refine va_mmin hx hb (hml.trans hl.1.symm) hown (hts _ (big_at 43 11 rfl)) (hts _ (big_at 6 20 rfl)) (hts _ (big_at 6 21 rfl)) (hts _ (big_at 6 22 rfl)) (by decide) (Nat.le_of_ble_eq_true rfl) (Nat.zero_le _) (Nat.zero_le _) dJ1_indexOf_4cfef_18 ?_
  refine lv_t0 (show (if (5 : Int32) < 5 then (5 : Int32) else 5) = 5 from by decide) ?_
  refine lv_istore_n (lv' := [(3, .int 5), (2, .int 0), (0, .ref (vS 15)), (1, .int 106)]) hx hb dJ1_indexOf_4cfef_21 rfl hl (by decide) rfl (fun ls hl => ?_)
  refine lv_iload_n hx hb dJ1_indexOf_4cfef_22 rfl (lv_at hl 1 rfl) ?_
  refine lv_iload_n hx hb dJ1_indexOf_4cfef_23 rfl (lv_at hl 0 rfl) ?_
  refine lv_icmp_lt (tgt := 29) hx hb dJ1_indexOf_4cfef_24 (by decide) (fun _ => ?_) (fun c9 => absurd (by decide) c9)
  refine lv_aload_n hx hb dJ1_indexOf_4cfef_29 rfl (lv_at hl 2 rfl) ?_
  refine lv_iload_n hx hb dJ1_indexOf_4cfef_30 rfl (lv_at hl 3 rfl) ?_
  refine lv_iload_n hx hb dJ1_indexOf_4cfef_31 rfl (lv_at hl 1 rfl) ?_
  refine lv_iload_n hx hb dJ1_indexOf_4cfef_32 rfl (lv_at hl 0 rfl) ?_
  refine m_ro (va_runS S9 (s_ixC2 l G cy kS vS) (bigS 4 hts (big_at 43 15 rfl) (big_at 35 6 rfl) (big_at 43 17 rfl) (big_at 43 16 rfl) rfl rfl (by decide +kernel) ⟨Nat.le_of_ble_eq_true rfl, Nat.le_of_ble_eq_true rfl⟩) ⟨fun b2 U g mk q => ⟨q.1, PJ.blind U g mk b2 q.2⟩, fun U hU hW => ⟨rfl, PJ.at hSK hDZ hS (fun q h => h) hK hP U hU hW⟩⟩ (g := F0 m _ ls _) rfl rfl hl.1 rfl (lv_room (Nat.le_of_ble_eq_true rfl)) dJ1_indexOf_4cfef_33 ⟨Nat.le_of_ble_eq_true rfl, Nat.le_of_ble_eq_true rfl⟩) ?_
  exact ro_iret hx hb hr hlocks rfl dJ1_indexOf_4cfef_36
set_option maxRecDepth 100000 in
set_option maxHeartbeats 2000000 in
theorem s_ixA2 (l : Launch) (G : va_G) (cy : Nat → ClassId) (kS vS : Nat → Nat)  : RO l yJ0_indexOf_7cf53 wsL_law { frames := 3, cells := 0, slots := 0, locals := 140 } (PJ G cy kS vS ([])) [.ref (kS 15), .int 106, .int 0] (some (.int 2)) := by
  refine RO.ofB (cc := cJ0_indexOf_7cf53) (maxL := 3) (ret := (some .int)) (by decide) (big_at 43 5 rfl) (Nat.le_of_ble_eq_true rfl) ?_
  intro p e s m below meth cq S9 hr hlocks hPB ls hl
  obtain ⟨hx, hb, hml, hown, hts⟩ := id S9
  obtain ⟨⟨hP, hK⟩, hSK, hDZ⟩ := hPB
  have hS : va_S (va_A ([]) s.heap.size) s.heap s.heap [] := va_S.rf
  have hl : lv_has ls 3 [(0, .ref (kS 15)), (1, .int 106), (2, .int 0)] := hl
  have hT : strI (ltS 15).length (ltS 15) (kS 15) (vS 15) (va_A [] s.heap.size) s s.heap := hSK.1.1 15 (by decide)
  have hP : va_P G vwCl [] s.heap := hP
  refine lv_aload_n hx hb dJ0_indexOf_7cf53_0 rfl (lv_at hl 0 rfl) ?_
  refine m_ro (va_runV S9 (z_isLatin1 l G cy kS vS (ltS 15) (kS 15) (vS 15) (by decide)) (bigV 0 hts (big_at 41 21 rfl) (big_at 32 16 rfl) (big_at 42 0 rfl) (big_at 41 22 rfl) (big_at 41 23 rfl) rfl rfl (by decide +kernel) ⟨Nat.le_of_ble_eq_true rfl, Nat.le_of_ble_eq_true rfl⟩) ⟨fun b2 U g mk q => ⟨q.1, PTx.blind U g mk b2 q.2⟩, hT.recv, fun U hU hW => ⟨rfl, PTx.at hT hSK hDZ hS (fun q h => h) hK hP U hU hW⟩⟩ (g := F0 m _ ls _) rfl rfl hl.1 rfl (lv_room (Nat.le_of_ble_eq_true rfl)) dJ0_indexOf_7cf53_1 ⟨Nat.le_of_ble_eq_true rfl, Nat.le_of_ble_eq_true rfl⟩) ?_
  refine lv_if_eq (tgt := 23) hx hb dJ0_indexOf_7cf53_4 (by decide) (fun c9 => absurd c9 (by decide)) (fun _ => ?_)
  refine lv_aload_n hx hb dJ0_indexOf_7cf53_7 rfl (lv_at hl 0 rfl) ?_
  refine vk_getf hx hb (hT).2.2.1 hS hown (hts _ (big_at 34 5 rfl)) (fun _ h9 => h9) dJ0_indexOf_7cf53_8 ?_
  refine lv_iload_n hx hb dJ0_indexOf_7cf53_11 rfl (lv_at hl 1 rfl) ?_
  refine lv_iload_n hx hb dJ0_indexOf_7cf53_12 rfl (lv_at hl 2 rfl) ?_
  refine lv_aload_n hx hb dJ0_indexOf_7cf53_13 rfl (lv_at hl 0 rfl) ?_
  refine m_ro (va_runV S9 (z_length l G cy kS vS (ltS 15) (kS 15) (vS 15) (by decide)) (bigV 0 hts (big_at 43 6 rfl) (big_at 32 16 rfl) (big_at 34 4 rfl) (big_at 34 2 rfl) (big_at 34 3 rfl) rfl rfl (by decide +kernel) ⟨Nat.le_of_ble_eq_true rfl, Nat.le_of_ble_eq_true rfl⟩) ⟨fun b2 U g mk q => ⟨q.1, PTx.blind U g mk b2 q.2⟩, hT.recv, fun U hU hW => ⟨rfl, PTx.at hT hSK hDZ hS (fun q h => h) hK hP U hU hW⟩⟩ (g := F0 m _ ls _) rfl rfl hl.1 rfl (lv_room (Nat.le_of_ble_eq_true rfl)) dJ0_indexOf_7cf53_14 ⟨Nat.le_of_ble_eq_true rfl, Nat.le_of_ble_eq_true rfl⟩) ?_
  refine lv_t0 (show (nI (ltS 15).length) = 5 from by decide) ?_
  refine m_ro (va_runS S9 (s_ixB2 l G cy kS vS) (bigS 4 hts (big_at 43 7 rfl) (big_at 35 6 rfl) (big_at 43 9 rfl) (big_at 43 8 rfl) rfl rfl (by decide +kernel) ⟨Nat.le_of_ble_eq_true rfl, Nat.le_of_ble_eq_true rfl⟩) ⟨fun b2 U g mk q => ⟨q.1, PJ.blind U g mk b2 q.2⟩, fun U hU hW => ⟨rfl, PJ.at hSK hDZ hS (fun q h => h) hK hP U hU hW⟩⟩ (g := F0 m _ ls _) rfl rfl hl.1 rfl (lv_room (Nat.le_of_ble_eq_true rfl)) dJ0_indexOf_7cf53_17 ⟨Nat.le_of_ble_eq_true rfl, Nat.le_of_ble_eq_true rfl⟩) ?_
  refine lv_goto (tgt := 36) hx hb dJ0_indexOf_7cf53_20 (by decide) ?_
  exact ro_iret hx hb hr hlocks rfl dJ0_indexOf_7cf53_36
set_option maxRecDepth 100000 in
set_option maxHeartbeats 2000000 in
theorem z_ix2 (l : Launch) (G : va_G) (cy : Nat → ClassId) (kS vS : Nat → Nat)  : RO l yJ0_indexOf_0f7a4 wsL_law { frames := 4, cells := 0, slots := 0, locals := 180 } (PJ G cy kS vS ([])) [.ref (kS 15), .int 106] (some (.int 2)) := by
  refine RO.ofB (cc := cJ0_indexOf_0f7a4) (maxL := 2) (ret := (some .int)) (by decide) (big_at 43 1 rfl) (Nat.le_of_ble_eq_true rfl) ?_
  intro p e s m below meth cq S9 hr hlocks hPB ls hl
  obtain ⟨hx, hb, hml, hown, hts⟩ := id S9
  obtain ⟨⟨hP, hK⟩, hSK, hDZ⟩ := hPB
  have hS : va_S (va_A ([]) s.heap.size) s.heap s.heap [] := va_S.rf
  have hl : lv_has ls 2 [(0, .ref (kS 15)), (1, .int 106)] := hl
  have hT : strI (ltS 15).length (ltS 15) (kS 15) (vS 15) (va_A [] s.heap.size) s s.heap := hSK.1.1 15 (by decide)
  have hP : va_P G vwCl [] s.heap := hP
  refine lv_aload_n hx hb dJ0_indexOf_0f7a4_0 rfl (lv_at hl 0 rfl) ?_
  refine lv_iload_n hx hb dJ0_indexOf_0f7a4_1 rfl (lv_at hl 1 rfl) ?_
  refine lv_iconst (v := 0) hx hb dJ0_indexOf_0f7a4_2 (by decide) ?_
  refine m_ro (va_runV S9 (s_ixA2 l G cy kS vS) (bigV 2 hts (big_at 43 2 rfl) (big_at 32 16 rfl) (big_at 43 5 rfl) (big_at 43 3 rfl) (big_at 43 4 rfl) rfl rfl (by decide +kernel) ⟨Nat.le_of_ble_eq_true rfl, Nat.le_of_ble_eq_true rfl⟩) ⟨fun b2 U g mk q => ⟨q.1, PJ.blind U g mk b2 q.2⟩, hT.recv, fun U hU hW => ⟨rfl, PJ.at hSK hDZ hS (fun q h => h) hK hP U hU hW⟩⟩ (g := F0 m _ ls _) rfl rfl hl.1 rfl (lv_room (Nat.le_of_ble_eq_true rfl)) dJ0_indexOf_0f7a4_3 ⟨Nat.le_of_ble_eq_true rfl, Nat.le_of_ble_eq_true rfl⟩) ?_
  exact ro_iret hx hb hr hlocks rfl dJ0_indexOf_0f7a4_6
set_option maxRecDepth 100000 in
set_option maxHeartbeats 2000000 in
theorem s_ixC3 (l : Launch) (G : va_G) (cy : Nat → ClassId) (kS vS : Nat → Nat)  : RO l yJ1_indexOfChar_4cfef wsL_law { frames := 1, cells := 0, slots := 0, locals := 40 } (PJ G cy kS vS ([])) [.ref (vS 15), .int 108, .int 0, .int 5] (some (.int 3)) := by
  refine RO.ofB (cc := cJ1_indexOfChar_4cfef) (maxL := 6) (ret := (some .int)) (by decide) (big_at 43 17 rfl) (Nat.le_of_ble_eq_true rfl) ?_
  intro p e s m below meth cq S9 hr hlocks hPB ls hl
  obtain ⟨hx, hb, hml, hown, hts⟩ := id S9
  obtain ⟨⟨hP, hK⟩, hSK, hDZ⟩ := hPB
  have hS : va_S (va_A ([]) s.heap.size) s.heap s.heap [] := va_S.rf
  have hl : lv_has ls 6 [(0, .ref (vS 15)), (1, .int 108), (2, .int 0), (3, .int 5)] := hl
  have hT : strI (ltS 15).length (ltS 15) (kS 15) (vS 15) (va_A [] s.heap.size) s s.heap := hSK.1.1 15 (by decide)
  have hP : va_P G vwCl [] s.heap := hP
  refine lv_iload_n hx hb dJ1_indexOfChar_4cfef_0 rfl (lv_at hl 1 rfl) ?_
  refine lv_i2b (v := 108) hx hb dJ1_indexOfChar_4cfef_1 (by decide) ?_
  refine lv_istore (lv' := [(4, .int 108), (0, .ref (vS 15)), (1, .int 108), (2, .int 0), (3, .int 5)]) hx hb dJ1_indexOfChar_4cfef_2 hl (by decide) rfl (fun ls hl => ?_)
  refine lv_iload_n hx hb dJ1_indexOfChar_4cfef_4 rfl (lv_at hl 3 rfl) ?_
  refine lv_istore (lv' := [(5, .int 0), (4, .int 108), (0, .ref (vS 15)), (1, .int 108), (2, .int 0), (3, .int 5)]) hx hb dJ1_indexOfChar_4cfef_5 hl (by decide) rfl (fun ls hl => ?_)
  refine lv_iload hx hb dJ1_indexOfChar_4cfef_7 (lv_at hl 0 rfl) ?_
  refine lv_iload_n hx hb dJ1_indexOfChar_4cfef_9 rfl (lv_at hl 5 rfl) ?_
  refine lv_icmp_ge (tgt := 31) hx hb dJ1_indexOfChar_4cfef_10 (by decide) (fun c9 => absurd c9 (by decide)) (fun _ => ?_)
  refine lv_aload_n hx hb dJ1_indexOfChar_4cfef_13 rfl (lv_at hl 2 rfl) ?_
  refine lv_iload hx hb dJ1_indexOfChar_4cfef_14 (lv_at hl 0 rfl) ?_
  refine va_tb hx hb hT.2.2.2 hS (i := nI 0) (v := .int 116) (vp_in_nI (show 0 < (ltS 15).length by decide) (by decide)) (by rw [nI_clamp (by omega)]; rfl) dJ1_indexOfChar_4cfef_16 ?_
  refine lv_iload hx hb dJ1_indexOfChar_4cfef_17 (lv_at hl 1 rfl) ?_
  refine lv_icmp_ne (tgt := 25) hx hb dJ1_indexOfChar_4cfef_19 (by decide) (fun _ => ?_) (fun c9 => absurd c9 (by decide))
  refine lv_iinc (v := 1) (lv' := [(5, .int 1), (4, .int 108), (0, .ref (vS 15)), (1, .int 108), (2, .int 0), (3, .int 5)]) hx hb dJ1_indexOfChar_4cfef_25 hl (k := 0) rfl (by decide) (by decide) rfl (fun ls hl => ?_)
  refine lv_goto (tgt := 7) hx hb dJ1_indexOfChar_4cfef_28 (by decide) ?_
  refine lv_iload hx hb dJ1_indexOfChar_4cfef_7 (lv_at hl 0 rfl) ?_
  refine lv_iload_n hx hb dJ1_indexOfChar_4cfef_9 rfl (lv_at hl 5 rfl) ?_
  refine lv_icmp_ge (tgt := 31) hx hb dJ1_indexOfChar_4cfef_10 (by decide) (fun c9 => absurd c9 (by decide)) (fun _ => ?_)
  refine lv_aload_n hx hb dJ1_indexOfChar_4cfef_13 rfl (lv_at hl 2 rfl) ?_
  refine lv_iload hx hb dJ1_indexOfChar_4cfef_14 (lv_at hl 0 rfl) ?_
  refine va_tb hx hb hT.2.2.2 hS (i := nI 1) (v := .int 112) (vp_in_nI (show 1 < (ltS 15).length by decide) (by decide)) (by rw [nI_clamp (by omega)]; rfl) dJ1_indexOfChar_4cfef_16 ?_
  refine lv_iload hx hb dJ1_indexOfChar_4cfef_17 (lv_at hl 1 rfl) ?_
  refine lv_icmp_ne (tgt := 25) hx hb dJ1_indexOfChar_4cfef_19 (by decide) (fun _ => ?_) (fun c9 => absurd c9 (by decide))
  refine lv_iinc (v := 2) (lv' := [(5, .int 2), (4, .int 108), (0, .ref (vS 15)), (1, .int 108), (2, .int 0), (3, .int 5)]) hx hb dJ1_indexOfChar_4cfef_25 hl (k := 0) rfl (by decide) (by decide) rfl (fun ls hl => ?_)
  refine lv_goto (tgt := 7) hx hb dJ1_indexOfChar_4cfef_28 (by decide) ?_
  refine lv_iload hx hb dJ1_indexOfChar_4cfef_7 (lv_at hl 0 rfl) ?_
  refine lv_iload_n hx hb dJ1_indexOfChar_4cfef_9 rfl (lv_at hl 5 rfl) ?_
  refine lv_icmp_ge (tgt := 31) hx hb dJ1_indexOfChar_4cfef_10 (by decide) (fun c9 => absurd c9 (by decide)) (fun _ => ?_)
  refine lv_aload_n hx hb dJ1_indexOfChar_4cfef_13 rfl (lv_at hl 2 rfl) ?_
  refine lv_iload hx hb dJ1_indexOfChar_4cfef_14 (lv_at hl 0 rfl) ?_
  refine va_tb hx hb hT.2.2.2 hS (i := nI 2) (v := .int 106) (vp_in_nI (show 2 < (ltS 15).length by decide) (by decide)) (by rw [nI_clamp (by omega)]; rfl) dJ1_indexOfChar_4cfef_16 ?_
  refine lv_iload hx hb dJ1_indexOfChar_4cfef_17 (lv_at hl 1 rfl) ?_
  refine lv_icmp_ne (tgt := 25) hx hb dJ1_indexOfChar_4cfef_19 (by decide) (fun _ => ?_) (fun c9 => absurd c9 (by decide))
  refine lv_iinc (v := 3) (lv' := [(5, .int 3), (4, .int 108), (0, .ref (vS 15)), (1, .int 108), (2, .int 0), (3, .int 5)]) hx hb dJ1_indexOfChar_4cfef_25 hl (k := 0) rfl (by decide) (by decide) rfl (fun ls hl => ?_)
  refine lv_goto (tgt := 7) hx hb dJ1_indexOfChar_4cfef_28 (by decide) ?_
  refine lv_iload hx hb dJ1_indexOfChar_4cfef_7 (lv_at hl 0 rfl) ?_
  refine lv_iload_n hx hb dJ1_indexOfChar_4cfef_9 rfl (lv_at hl 5 rfl) ?_
  refine lv_icmp_ge (tgt := 31) hx hb dJ1_indexOfChar_4cfef_10 (by decide) (fun c9 => absurd c9 (by decide)) (fun _ => ?_)
  refine lv_aload_n hx hb dJ1_indexOfChar_4cfef_13 rfl (lv_at hl 2 rfl) ?_
  refine lv_iload hx hb dJ1_indexOfChar_4cfef_14 (lv_at hl 0 rfl) ?_
  refine va_tb hx hb hT.2.2.2 hS (i := nI 3) (v := .int 108) (vp_in_nI (show 3 < (ltS 15).length by decide) (by decide)) (by rw [nI_clamp (by omega)]; rfl) dJ1_indexOfChar_4cfef_16 ?_
  refine lv_iload hx hb dJ1_indexOfChar_4cfef_17 (lv_at hl 1 rfl) ?_
  refine lv_icmp_ne (tgt := 25) hx hb dJ1_indexOfChar_4cfef_19 (by decide) (fun c9 => absurd (by decide) c9) (fun _ => ?_)
  refine lv_iload hx hb dJ1_indexOfChar_4cfef_22 (lv_at hl 0 rfl) ?_
  exact ro_iret hx hb hr hlocks rfl dJ1_indexOfChar_4cfef_24
set_option maxRecDepth 100000 in
set_option maxHeartbeats 2000000 in
theorem s_ixB3 (l : Launch) (G : va_G) (cy : Nat → ClassId) (kS vS : Nat → Nat)  : RO l yJ1_indexOf_4cfef wsL_law { frames := 2, cells := 0, slots := 0, locals := 80 } (PJ G cy kS vS ([])) [.ref (vS 15), .int 108, .int 0, .int 5] (some (.int 3)) := by
  refine RO.ofB (cc := cJ1_indexOf_4cfef) (maxL := 4) (ret := (some .int)) (by decide) (big_at 43 9 rfl) (Nat.le_of_ble_eq_true rfl) ?_
  intro p e s m below meth cq S9 hr hlocks hPB ls hl
  obtain ⟨hx, hb, hml, hown, hts⟩ := id S9
  obtain ⟨⟨hP, hK⟩, hSK, hDZ⟩ := hPB
  have hS : va_S (va_A ([]) s.heap.size) s.heap s.heap [] := va_S.rf
  have hl : lv_has ls 4 [(0, .ref (vS 15)), (1, .int 108), (2, .int 0), (3, .int 5)] := hl
  have hT : strI (ltS 15).length (ltS 15) (kS 15) (vS 15) (va_A [] s.heap.size) s s.heap := hSK.1.1 15 (by decide)
  have hP : va_P G vwCl [] s.heap := hP
  refine lv_iload_n hx hb dJ1_indexOf_4cfef_0 rfl (lv_at hl 1 rfl) ?_
  refine m_ro (va_runS S9 (s_canE l G cy kS vS 108 (by decide) (by decide)) (bigS 1 hts (big_at 43 12 rfl) (big_at 35 6 rfl) (big_at 43 14 rfl) (big_at 43 13 rfl) rfl rfl (by decide +kernel) ⟨Nat.le_of_ble_eq_true rfl, Nat.le_of_ble_eq_true rfl⟩) ⟨fun b2 U g mk q => ⟨q.1, PJ.blind U g mk b2 q.2⟩, fun U hU hW => ⟨rfl, PJ.at hSK hDZ hS (fun q h => h) hK hP U hU hW⟩⟩ (g := F0 m _ ls _) rfl rfl hl.1 rfl (lv_room (Nat.le_of_ble_eq_true rfl)) dJ1_indexOf_4cfef_1 ⟨Nat.le_of_ble_eq_true rfl, Nat.le_of_ble_eq_true rfl⟩) ?_
  refine lv_if_ne (tgt := 9) hx hb dJ1_indexOf_4cfef_4 (by decide) (fun _ => ?_) (fun c9 => absurd c9 (by decide))
  refine lv_iload_n hx hb dJ1_indexOf_4cfef_9 rfl (lv_at hl 2 rfl) ?_
  refine lv_iconst (v := 0) hx hb dJ1_indexOf_4cfef_10 (by decide) ?_
  refine va_mmax hx hb (hml.trans hl.1.symm) hown (hts _ (big_at 43 10 rfl)) (hts _ (big_at 30 21 rfl)) (hts _ (big_at 6 21 rfl)) (hts _ (big_at 30 22 rfl)) (by decide) (Nat.le_of_ble_eq_true rfl) (Nat.zero_le _) (Nat.zero_le _) dJ1_indexOf_4cfef_11 ?_
  refine lv_t0 (show (if (0 : Int32) < 0 then (0 : Int32) else 0) = 0 from by decide) ?_
  refine lv_istore_n (lv' := [(2, .int 0), (0, .ref (vS 15)), (1, .int 108), (3, .int 5)]) hx hb dJ1_indexOf_4cfef_14 rfl hl (by decide) rfl (fun ls hl => ?_)
  refine lv_iload_n hx hb dJ1_indexOf_4cfef_15 rfl (lv_at hl 3 rfl) ?_
  refine lv_aload_n hx hb dJ1_indexOf_4cfef_16 rfl (lv_at hl 1 rfl) ?_
  refine va_tlen hx hb hT.2.2.2 hS (v := 5) rfl dJ1_indexOf_4cfef_17 ?_
  refine va_mmin hx hb (hml.trans hl.1.symm) hown (hts _ (big_at 43 11 rfl)) (hts _ (big_at 6 20 rfl)) (hts _ (big_at 6 21 rfl)) (hts _ (big_at 6 22 rfl)) (by decide) (Nat.le_of_ble_eq_true rfl) (Nat.zero_le _) (Nat.zero_le _) dJ1_indexOf_4cfef_18 ?_
  refine lv_t0 (show (if (5 : Int32) < 5 then (5 : Int32) else 5) = 5 from by decide) ?_
  refine lv_istore_n (lv' := [(3, .int 5), (2, .int 0), (0, .ref (vS 15)), (1, .int 108)]) hx hb dJ1_indexOf_4cfef_21 rfl hl (by decide) rfl (fun ls hl => ?_)
  refine lv_iload_n hx hb dJ1_indexOf_4cfef_22 rfl (lv_at hl 1 rfl) ?_
  refine lv_iload_n hx hb dJ1_indexOf_4cfef_23 rfl (lv_at hl 0 rfl) ?_
  refine lv_icmp_lt (tgt := 29) hx hb dJ1_indexOf_4cfef_24 (by decide) (fun _ => ?_) (fun c9 => absurd (by decide) c9)
  refine lv_aload_n hx hb dJ1_indexOf_4cfef_29 rfl (lv_at hl 2 rfl) ?_
  refine lv_iload_n hx hb dJ1_indexOf_4cfef_30 rfl (lv_at hl 3 rfl) ?_
  refine lv_iload_n hx hb dJ1_indexOf_4cfef_31 rfl (lv_at hl 1 rfl) ?_
  refine lv_iload_n hx hb dJ1_indexOf_4cfef_32 rfl (lv_at hl 0 rfl) ?_
  refine m_ro (va_runS S9 (s_ixC3 l G cy kS vS) (bigS 4 hts (big_at 43 15 rfl) (big_at 35 6 rfl) (big_at 43 17 rfl) (big_at 43 16 rfl) rfl rfl (by decide +kernel) ⟨Nat.le_of_ble_eq_true rfl, Nat.le_of_ble_eq_true rfl⟩) ⟨fun b2 U g mk q => ⟨q.1, PJ.blind U g mk b2 q.2⟩, fun U hU hW => ⟨rfl, PJ.at hSK hDZ hS (fun q h => h) hK hP U hU hW⟩⟩ (g := F0 m _ ls _) rfl rfl hl.1 rfl (lv_room (Nat.le_of_ble_eq_true rfl)) dJ1_indexOf_4cfef_33 ⟨Nat.le_of_ble_eq_true rfl, Nat.le_of_ble_eq_true rfl⟩) ?_
  exact ro_iret hx hb hr hlocks rfl dJ1_indexOf_4cfef_36
set_option maxRecDepth 100000 in
set_option maxHeartbeats 2000000 in
theorem s_ixA3 (l : Launch) (G : va_G) (cy : Nat → ClassId) (kS vS : Nat → Nat)  : RO l yJ0_indexOf_7cf53 wsL_law { frames := 3, cells := 0, slots := 0, locals := 140 } (PJ G cy kS vS ([])) [.ref (kS 15), .int 108, .int 0] (some (.int 3)) := by
  refine RO.ofB (cc := cJ0_indexOf_7cf53) (maxL := 3) (ret := (some .int)) (by decide) (big_at 43 5 rfl) (Nat.le_of_ble_eq_true rfl) ?_
  intro p e s m below meth cq S9 hr hlocks hPB ls hl
  obtain ⟨hx, hb, hml, hown, hts⟩ := id S9
  obtain ⟨⟨hP, hK⟩, hSK, hDZ⟩ := hPB
  have hS : va_S (va_A ([]) s.heap.size) s.heap s.heap [] := va_S.rf
  have hl : lv_has ls 3 [(0, .ref (kS 15)), (1, .int 108), (2, .int 0)] := hl
  have hT : strI (ltS 15).length (ltS 15) (kS 15) (vS 15) (va_A [] s.heap.size) s s.heap := hSK.1.1 15 (by decide)
  have hP : va_P G vwCl [] s.heap := hP
  refine lv_aload_n hx hb dJ0_indexOf_7cf53_0 rfl (lv_at hl 0 rfl) ?_
  refine m_ro (va_runV S9 (z_isLatin1 l G cy kS vS (ltS 15) (kS 15) (vS 15) (by decide)) (bigV 0 hts (big_at 41 21 rfl) (big_at 32 16 rfl) (big_at 42 0 rfl) (big_at 41 22 rfl) (big_at 41 23 rfl) rfl rfl (by decide +kernel) ⟨Nat.le_of_ble_eq_true rfl, Nat.le_of_ble_eq_true rfl⟩) ⟨fun b2 U g mk q => ⟨q.1, PTx.blind U g mk b2 q.2⟩, hT.recv, fun U hU hW => ⟨rfl, PTx.at hT hSK hDZ hS (fun q h => h) hK hP U hU hW⟩⟩ (g := F0 m _ ls _) rfl rfl hl.1 rfl (lv_room (Nat.le_of_ble_eq_true rfl)) dJ0_indexOf_7cf53_1 ⟨Nat.le_of_ble_eq_true rfl, Nat.le_of_ble_eq_true rfl⟩) ?_
  refine lv_if_eq (tgt := 23) hx hb dJ0_indexOf_7cf53_4 (by decide) (fun c9 => absurd c9 (by decide)) (fun _ => ?_)
  refine lv_aload_n hx hb dJ0_indexOf_7cf53_7 rfl (lv_at hl 0 rfl) ?_
  refine vk_getf hx hb (hT).2.2.1 hS hown (hts _ (big_at 34 5 rfl)) (fun _ h9 => h9) dJ0_indexOf_7cf53_8 ?_
  refine lv_iload_n hx hb dJ0_indexOf_7cf53_11 rfl (lv_at hl 1 rfl) ?_
  refine lv_iload_n hx hb dJ0_indexOf_7cf53_12 rfl (lv_at hl 2 rfl) ?_
  refine lv_aload_n hx hb dJ0_indexOf_7cf53_13 rfl (lv_at hl 0 rfl) ?_
  refine m_ro (va_runV S9 (z_length l G cy kS vS (ltS 15) (kS 15) (vS 15) (by decide)) (bigV 0 hts (big_at 43 6 rfl) (big_at 32 16 rfl) (big_at 34 4 rfl) (big_at 34 2 rfl) (big_at 34 3 rfl) rfl rfl (by decide +kernel) ⟨Nat.le_of_ble_eq_true rfl, Nat.le_of_ble_eq_true rfl⟩) ⟨fun b2 U g mk q => ⟨q.1, PTx.blind U g mk b2 q.2⟩, hT.recv, fun U hU hW => ⟨rfl, PTx.at hT hSK hDZ hS (fun q h => h) hK hP U hU hW⟩⟩ (g := F0 m _ ls _) rfl rfl hl.1 rfl (lv_room (Nat.le_of_ble_eq_true rfl)) dJ0_indexOf_7cf53_14 ⟨Nat.le_of_ble_eq_true rfl, Nat.le_of_ble_eq_true rfl⟩) ?_
  refine lv_t0 (show (nI (ltS 15).length) = 5 from by decide) ?_
  refine m_ro (va_runS S9 (s_ixB3 l G cy kS vS) (bigS 4 hts (big_at 43 7 rfl) (big_at 35 6 rfl) (big_at 43 9 rfl) (big_at 43 8 rfl) rfl rfl (by decide +kernel) ⟨Nat.le_of_ble_eq_true rfl, Nat.le_of_ble_eq_true rfl⟩) ⟨fun b2 U g mk q => ⟨q.1, PJ.blind U g mk b2 q.2⟩, fun U hU hW => ⟨rfl, PJ.at hSK hDZ hS (fun q h => h) hK hP U hU hW⟩⟩ (g := F0 m _ ls _) rfl rfl hl.1 rfl (lv_room (Nat.le_of_ble_eq_true rfl)) dJ0_indexOf_7cf53_17 ⟨Nat.le_of_ble_eq_true rfl, Nat.le_of_ble_eq_true rfl⟩) ?_
  refine lv_goto (tgt := 36) hx hb dJ0_indexOf_7cf53_20 (by decide) ?_
  exact ro_iret hx hb hr hlocks rfl dJ0_indexOf_7cf53_36
set_option maxRecDepth 100000 in
set_option maxHeartbeats 2000000 in
theorem z_ix3 (l : Launch) (G : va_G) (cy : Nat → ClassId) (kS vS : Nat → Nat)  : RO l yJ0_indexOf_0f7a4 wsL_law { frames := 4, cells := 0, slots := 0, locals := 180 } (PJ G cy kS vS ([])) [.ref (kS 15), .int 108] (some (.int 3)) := by
  refine RO.ofB (cc := cJ0_indexOf_0f7a4) (maxL := 2) (ret := (some .int)) (by decide) (big_at 43 1 rfl) (Nat.le_of_ble_eq_true rfl) ?_
  intro p e s m below meth cq S9 hr hlocks hPB ls hl
  obtain ⟨hx, hb, hml, hown, hts⟩ := id S9
  obtain ⟨⟨hP, hK⟩, hSK, hDZ⟩ := hPB
  have hS : va_S (va_A ([]) s.heap.size) s.heap s.heap [] := va_S.rf
  have hl : lv_has ls 2 [(0, .ref (kS 15)), (1, .int 108)] := hl
  have hT : strI (ltS 15).length (ltS 15) (kS 15) (vS 15) (va_A [] s.heap.size) s s.heap := hSK.1.1 15 (by decide)
  have hP : va_P G vwCl [] s.heap := hP
  refine lv_aload_n hx hb dJ0_indexOf_0f7a4_0 rfl (lv_at hl 0 rfl) ?_
  refine lv_iload_n hx hb dJ0_indexOf_0f7a4_1 rfl (lv_at hl 1 rfl) ?_
  refine lv_iconst (v := 0) hx hb dJ0_indexOf_0f7a4_2 (by decide) ?_
  refine m_ro (va_runV S9 (s_ixA3 l G cy kS vS) (bigV 2 hts (big_at 43 2 rfl) (big_at 32 16 rfl) (big_at 43 5 rfl) (big_at 43 3 rfl) (big_at 43 4 rfl) rfl rfl (by decide +kernel) ⟨Nat.le_of_ble_eq_true rfl, Nat.le_of_ble_eq_true rfl⟩) ⟨fun b2 U g mk q => ⟨q.1, PJ.blind U g mk b2 q.2⟩, hT.recv, fun U hU hW => ⟨rfl, PJ.at hSK hDZ hS (fun q h => h) hK hP U hU hW⟩⟩ (g := F0 m _ ls _) rfl rfl hl.1 rfl (lv_room (Nat.le_of_ble_eq_true rfl)) dJ0_indexOf_0f7a4_3 ⟨Nat.le_of_ble_eq_true rfl, Nat.le_of_ble_eq_true rfl⟩) ?_
  exact ro_iret hx hb hr hlocks rfl dJ0_indexOf_0f7a4_6
set_option maxRecDepth 100000 in
set_option maxHeartbeats 2000000 in
theorem s_ixC4 (l : Launch) (G : va_G) (cy : Nat → ClassId) (kS vS : Nat → Nat)  : RO l yJ1_indexOfChar_4cfef wsL_law { frames := 1, cells := 0, slots := 0, locals := 40 } (PJ G cy kS vS ([])) [.ref (vS 15), .int 100, .int 0, .int 5] (some (.int 4)) := by
  refine RO.ofB (cc := cJ1_indexOfChar_4cfef) (maxL := 6) (ret := (some .int)) (by decide) (big_at 43 17 rfl) (Nat.le_of_ble_eq_true rfl) ?_
  intro p e s m below meth cq S9 hr hlocks hPB ls hl
  obtain ⟨hx, hb, hml, hown, hts⟩ := id S9
  obtain ⟨⟨hP, hK⟩, hSK, hDZ⟩ := hPB
  have hS : va_S (va_A ([]) s.heap.size) s.heap s.heap [] := va_S.rf
  have hl : lv_has ls 6 [(0, .ref (vS 15)), (1, .int 100), (2, .int 0), (3, .int 5)] := hl
  have hT : strI (ltS 15).length (ltS 15) (kS 15) (vS 15) (va_A [] s.heap.size) s s.heap := hSK.1.1 15 (by decide)
  have hP : va_P G vwCl [] s.heap := hP
  refine lv_iload_n hx hb dJ1_indexOfChar_4cfef_0 rfl (lv_at hl 1 rfl) ?_
  refine lv_i2b (v := 100) hx hb dJ1_indexOfChar_4cfef_1 (by decide) ?_
  refine lv_istore (lv' := [(4, .int 100), (0, .ref (vS 15)), (1, .int 100), (2, .int 0), (3, .int 5)]) hx hb dJ1_indexOfChar_4cfef_2 hl (by decide) rfl (fun ls hl => ?_)
  refine lv_iload_n hx hb dJ1_indexOfChar_4cfef_4 rfl (lv_at hl 3 rfl) ?_
  refine lv_istore (lv' := [(5, .int 0), (4, .int 100), (0, .ref (vS 15)), (1, .int 100), (2, .int 0), (3, .int 5)]) hx hb dJ1_indexOfChar_4cfef_5 hl (by decide) rfl (fun ls hl => ?_)
  refine lv_iload hx hb dJ1_indexOfChar_4cfef_7 (lv_at hl 0 rfl) ?_
  refine lv_iload_n hx hb dJ1_indexOfChar_4cfef_9 rfl (lv_at hl 5 rfl) ?_
  refine lv_icmp_ge (tgt := 31) hx hb dJ1_indexOfChar_4cfef_10 (by decide) (fun c9 => absurd c9 (by decide)) (fun _ => ?_)
  refine lv_aload_n hx hb dJ1_indexOfChar_4cfef_13 rfl (lv_at hl 2 rfl) ?_
  refine lv_iload hx hb dJ1_indexOfChar_4cfef_14 (lv_at hl 0 rfl) ?_
  refine va_tb hx hb hT.2.2.2 hS (i := nI 0) (v := .int 116) (vp_in_nI (show 0 < (ltS 15).length by decide) (by decide)) (by rw [nI_clamp (by omega)]; rfl) dJ1_indexOfChar_4cfef_16 ?_
  refine lv_iload hx hb dJ1_indexOfChar_4cfef_17 (lv_at hl 1 rfl) ?_
  refine lv_icmp_ne (tgt := 25) hx hb dJ1_indexOfChar_4cfef_19 (by decide) (fun _ => ?_) (fun c9 => absurd c9 (by decide))
  refine lv_iinc (v := 1) (lv' := [(5, .int 1), (4, .int 100), (0, .ref (vS 15)), (1, .int 100), (2, .int 0), (3, .int 5)]) hx hb dJ1_indexOfChar_4cfef_25 hl (k := 0) rfl (by decide) (by decide) rfl (fun ls hl => ?_)
  refine lv_goto (tgt := 7) hx hb dJ1_indexOfChar_4cfef_28 (by decide) ?_
  refine lv_iload hx hb dJ1_indexOfChar_4cfef_7 (lv_at hl 0 rfl) ?_
  refine lv_iload_n hx hb dJ1_indexOfChar_4cfef_9 rfl (lv_at hl 5 rfl) ?_
  refine lv_icmp_ge (tgt := 31) hx hb dJ1_indexOfChar_4cfef_10 (by decide) (fun c9 => absurd c9 (by decide)) (fun _ => ?_)
  refine lv_aload_n hx hb dJ1_indexOfChar_4cfef_13 rfl (lv_at hl 2 rfl) ?_
  refine lv_iload hx hb dJ1_indexOfChar_4cfef_14 (lv_at hl 0 rfl) ?_
  refine va_tb hx hb hT.2.2.2 hS (i := nI 1) (v := .int 112) (vp_in_nI (show 1 < (ltS 15).length by decide) (by decide)) (by rw [nI_clamp (by omega)]; rfl) dJ1_indexOfChar_4cfef_16 ?_
  refine lv_iload hx hb dJ1_indexOfChar_4cfef_17 (lv_at hl 1 rfl) ?_
  refine lv_icmp_ne (tgt := 25) hx hb dJ1_indexOfChar_4cfef_19 (by decide) (fun _ => ?_) (fun c9 => absurd c9 (by decide))
  refine lv_iinc (v := 2) (lv' := [(5, .int 2), (4, .int 100), (0, .ref (vS 15)), (1, .int 100), (2, .int 0), (3, .int 5)]) hx hb dJ1_indexOfChar_4cfef_25 hl (k := 0) rfl (by decide) (by decide) rfl (fun ls hl => ?_)
  refine lv_goto (tgt := 7) hx hb dJ1_indexOfChar_4cfef_28 (by decide) ?_
  refine lv_iload hx hb dJ1_indexOfChar_4cfef_7 (lv_at hl 0 rfl) ?_
  refine lv_iload_n hx hb dJ1_indexOfChar_4cfef_9 rfl (lv_at hl 5 rfl) ?_
  refine lv_icmp_ge (tgt := 31) hx hb dJ1_indexOfChar_4cfef_10 (by decide) (fun c9 => absurd c9 (by decide)) (fun _ => ?_)
  refine lv_aload_n hx hb dJ1_indexOfChar_4cfef_13 rfl (lv_at hl 2 rfl) ?_
  refine lv_iload hx hb dJ1_indexOfChar_4cfef_14 (lv_at hl 0 rfl) ?_
  refine va_tb hx hb hT.2.2.2 hS (i := nI 2) (v := .int 106) (vp_in_nI (show 2 < (ltS 15).length by decide) (by decide)) (by rw [nI_clamp (by omega)]; rfl) dJ1_indexOfChar_4cfef_16 ?_
  refine lv_iload hx hb dJ1_indexOfChar_4cfef_17 (lv_at hl 1 rfl) ?_
  refine lv_icmp_ne (tgt := 25) hx hb dJ1_indexOfChar_4cfef_19 (by decide) (fun _ => ?_) (fun c9 => absurd c9 (by decide))
  refine lv_iinc (v := 3) (lv' := [(5, .int 3), (4, .int 100), (0, .ref (vS 15)), (1, .int 100), (2, .int 0), (3, .int 5)]) hx hb dJ1_indexOfChar_4cfef_25 hl (k := 0) rfl (by decide) (by decide) rfl (fun ls hl => ?_)
  refine lv_goto (tgt := 7) hx hb dJ1_indexOfChar_4cfef_28 (by decide) ?_
  refine lv_iload hx hb dJ1_indexOfChar_4cfef_7 (lv_at hl 0 rfl) ?_
  refine lv_iload_n hx hb dJ1_indexOfChar_4cfef_9 rfl (lv_at hl 5 rfl) ?_
  refine lv_icmp_ge (tgt := 31) hx hb dJ1_indexOfChar_4cfef_10 (by decide) (fun c9 => absurd c9 (by decide)) (fun _ => ?_)
  refine lv_aload_n hx hb dJ1_indexOfChar_4cfef_13 rfl (lv_at hl 2 rfl) ?_
  refine lv_iload hx hb dJ1_indexOfChar_4cfef_14 (lv_at hl 0 rfl) ?_
  refine va_tb hx hb hT.2.2.2 hS (i := nI 3) (v := .int 108) (vp_in_nI (show 3 < (ltS 15).length by decide) (by decide)) (by rw [nI_clamp (by omega)]; rfl) dJ1_indexOfChar_4cfef_16 ?_
  refine lv_iload hx hb dJ1_indexOfChar_4cfef_17 (lv_at hl 1 rfl) ?_
  refine lv_icmp_ne (tgt := 25) hx hb dJ1_indexOfChar_4cfef_19 (by decide) (fun _ => ?_) (fun c9 => absurd c9 (by decide))
  refine lv_iinc (v := 4) (lv' := [(5, .int 4), (4, .int 100), (0, .ref (vS 15)), (1, .int 100), (2, .int 0), (3, .int 5)]) hx hb dJ1_indexOfChar_4cfef_25 hl (k := 0) rfl (by decide) (by decide) rfl (fun ls hl => ?_)
  refine lv_goto (tgt := 7) hx hb dJ1_indexOfChar_4cfef_28 (by decide) ?_
  refine lv_iload hx hb dJ1_indexOfChar_4cfef_7 (lv_at hl 0 rfl) ?_
  refine lv_iload_n hx hb dJ1_indexOfChar_4cfef_9 rfl (lv_at hl 5 rfl) ?_
  refine lv_icmp_ge (tgt := 31) hx hb dJ1_indexOfChar_4cfef_10 (by decide) (fun c9 => absurd c9 (by decide)) (fun _ => ?_)
  refine lv_aload_n hx hb dJ1_indexOfChar_4cfef_13 rfl (lv_at hl 2 rfl) ?_
  refine lv_iload hx hb dJ1_indexOfChar_4cfef_14 (lv_at hl 0 rfl) ?_
  refine va_tb hx hb hT.2.2.2 hS (i := nI 4) (v := .int 100) (vp_in_nI (show 4 < (ltS 15).length by decide) (by decide)) (by rw [nI_clamp (by omega)]; rfl) dJ1_indexOfChar_4cfef_16 ?_
  refine lv_iload hx hb dJ1_indexOfChar_4cfef_17 (lv_at hl 1 rfl) ?_
  refine lv_icmp_ne (tgt := 25) hx hb dJ1_indexOfChar_4cfef_19 (by decide) (fun c9 => absurd (by decide) c9) (fun _ => ?_)
  refine lv_iload hx hb dJ1_indexOfChar_4cfef_22 (lv_at hl 0 rfl) ?_
  exact ro_iret hx hb hr hlocks rfl dJ1_indexOfChar_4cfef_24
set_option maxRecDepth 100000 in
set_option maxHeartbeats 2000000 in
theorem s_ixB4 (l : Launch) (G : va_G) (cy : Nat → ClassId) (kS vS : Nat → Nat)  : RO l yJ1_indexOf_4cfef wsL_law { frames := 2, cells := 0, slots := 0, locals := 80 } (PJ G cy kS vS ([])) [.ref (vS 15), .int 100, .int 0, .int 5] (some (.int 4)) := by
  refine RO.ofB (cc := cJ1_indexOf_4cfef) (maxL := 4) (ret := (some .int)) (by decide) (big_at 43 9 rfl) (Nat.le_of_ble_eq_true rfl) ?_
  intro p e s m below meth cq S9 hr hlocks hPB ls hl
  obtain ⟨hx, hb, hml, hown, hts⟩ := id S9
  obtain ⟨⟨hP, hK⟩, hSK, hDZ⟩ := hPB
  have hS : va_S (va_A ([]) s.heap.size) s.heap s.heap [] := va_S.rf
  have hl : lv_has ls 4 [(0, .ref (vS 15)), (1, .int 100), (2, .int 0), (3, .int 5)] := hl
  have hT : strI (ltS 15).length (ltS 15) (kS 15) (vS 15) (va_A [] s.heap.size) s s.heap := hSK.1.1 15 (by decide)
  have hP : va_P G vwCl [] s.heap := hP
  refine lv_iload_n hx hb dJ1_indexOf_4cfef_0 rfl (lv_at hl 1 rfl) ?_
  refine m_ro (va_runS S9 (s_canE l G cy kS vS 100 (by decide) (by decide)) (bigS 1 hts (big_at 43 12 rfl) (big_at 35 6 rfl) (big_at 43 14 rfl) (big_at 43 13 rfl) rfl rfl (by decide +kernel) ⟨Nat.le_of_ble_eq_true rfl, Nat.le_of_ble_eq_true rfl⟩) ⟨fun b2 U g mk q => ⟨q.1, PJ.blind U g mk b2 q.2⟩, fun U hU hW => ⟨rfl, PJ.at hSK hDZ hS (fun q h => h) hK hP U hU hW⟩⟩ (g := F0 m _ ls _) rfl rfl hl.1 rfl (lv_room (Nat.le_of_ble_eq_true rfl)) dJ1_indexOf_4cfef_1 ⟨Nat.le_of_ble_eq_true rfl, Nat.le_of_ble_eq_true rfl⟩) ?_
  refine lv_if_ne (tgt := 9) hx hb dJ1_indexOf_4cfef_4 (by decide) (fun _ => ?_) (fun c9 => absurd c9 (by decide))
  refine lv_iload_n hx hb dJ1_indexOf_4cfef_9 rfl (lv_at hl 2 rfl) ?_
  refine lv_iconst (v := 0) hx hb dJ1_indexOf_4cfef_10 (by decide) ?_
  refine va_mmax hx hb (hml.trans hl.1.symm) hown (hts _ (big_at 43 10 rfl)) (hts _ (big_at 30 21 rfl)) (hts _ (big_at 6 21 rfl)) (hts _ (big_at 30 22 rfl)) (by decide) (Nat.le_of_ble_eq_true rfl) (Nat.zero_le _) (Nat.zero_le _) dJ1_indexOf_4cfef_11 ?_
  refine lv_t0 (show (if (0 : Int32) < 0 then (0 : Int32) else 0) = 0 from by decide) ?_
  refine lv_istore_n (lv' := [(2, .int 0), (0, .ref (vS 15)), (1, .int 100), (3, .int 5)]) hx hb dJ1_indexOf_4cfef_14 rfl hl (by decide) rfl (fun ls hl => ?_)
  refine lv_iload_n hx hb dJ1_indexOf_4cfef_15 rfl (lv_at hl 3 rfl) ?_
  refine lv_aload_n hx hb dJ1_indexOf_4cfef_16 rfl (lv_at hl 1 rfl) ?_
  refine va_tlen hx hb hT.2.2.2 hS (v := 5) rfl dJ1_indexOf_4cfef_17 ?_
  refine va_mmin hx hb (hml.trans hl.1.symm) hown (hts _ (big_at 43 11 rfl)) (hts _ (big_at 6 20 rfl)) (hts _ (big_at 6 21 rfl)) (hts _ (big_at 6 22 rfl)) (by decide) (Nat.le_of_ble_eq_true rfl) (Nat.zero_le _) (Nat.zero_le _) dJ1_indexOf_4cfef_18 ?_
  refine lv_t0 (show (if (5 : Int32) < 5 then (5 : Int32) else 5) = 5 from by decide) ?_
  refine lv_istore_n (lv' := [(3, .int 5), (2, .int 0), (0, .ref (vS 15)), (1, .int 100)]) hx hb dJ1_indexOf_4cfef_21 rfl hl (by decide) rfl (fun ls hl => ?_)
  refine lv_iload_n hx hb dJ1_indexOf_4cfef_22 rfl (lv_at hl 1 rfl) ?_
  refine lv_iload_n hx hb dJ1_indexOf_4cfef_23 rfl (lv_at hl 0 rfl) ?_
  refine lv_icmp_lt (tgt := 29) hx hb dJ1_indexOf_4cfef_24 (by decide) (fun _ => ?_) (fun c9 => absurd (by decide) c9)
  refine lv_aload_n hx hb dJ1_indexOf_4cfef_29 rfl (lv_at hl 2 rfl) ?_
  refine lv_iload_n hx hb dJ1_indexOf_4cfef_30 rfl (lv_at hl 3 rfl) ?_
  refine lv_iload_n hx hb dJ1_indexOf_4cfef_31 rfl (lv_at hl 1 rfl) ?_
  refine lv_iload_n hx hb dJ1_indexOf_4cfef_32 rfl (lv_at hl 0 rfl) ?_
  refine m_ro (va_runS S9 (s_ixC4 l G cy kS vS) (bigS 4 hts (big_at 43 15 rfl) (big_at 35 6 rfl) (big_at 43 17 rfl) (big_at 43 16 rfl) rfl rfl (by decide +kernel) ⟨Nat.le_of_ble_eq_true rfl, Nat.le_of_ble_eq_true rfl⟩) ⟨fun b2 U g mk q => ⟨q.1, PJ.blind U g mk b2 q.2⟩, fun U hU hW => ⟨rfl, PJ.at hSK hDZ hS (fun q h => h) hK hP U hU hW⟩⟩ (g := F0 m _ ls _) rfl rfl hl.1 rfl (lv_room (Nat.le_of_ble_eq_true rfl)) dJ1_indexOf_4cfef_33 ⟨Nat.le_of_ble_eq_true rfl, Nat.le_of_ble_eq_true rfl⟩) ?_
  exact ro_iret hx hb hr hlocks rfl dJ1_indexOf_4cfef_36
set_option maxRecDepth 100000 in
set_option maxHeartbeats 2000000 in
theorem s_ixA4 (l : Launch) (G : va_G) (cy : Nat → ClassId) (kS vS : Nat → Nat)  : RO l yJ0_indexOf_7cf53 wsL_law { frames := 3, cells := 0, slots := 0, locals := 140 } (PJ G cy kS vS ([])) [.ref (kS 15), .int 100, .int 0] (some (.int 4)) := by
  refine RO.ofB (cc := cJ0_indexOf_7cf53) (maxL := 3) (ret := (some .int)) (by decide) (big_at 43 5 rfl) (Nat.le_of_ble_eq_true rfl) ?_
  intro p e s m below meth cq S9 hr hlocks hPB ls hl
  obtain ⟨hx, hb, hml, hown, hts⟩ := id S9
  obtain ⟨⟨hP, hK⟩, hSK, hDZ⟩ := hPB
  have hS : va_S (va_A ([]) s.heap.size) s.heap s.heap [] := va_S.rf
  have hl : lv_has ls 3 [(0, .ref (kS 15)), (1, .int 100), (2, .int 0)] := hl
  have hT : strI (ltS 15).length (ltS 15) (kS 15) (vS 15) (va_A [] s.heap.size) s s.heap := hSK.1.1 15 (by decide)
  have hP : va_P G vwCl [] s.heap := hP
  refine lv_aload_n hx hb dJ0_indexOf_7cf53_0 rfl (lv_at hl 0 rfl) ?_
  refine m_ro (va_runV S9 (z_isLatin1 l G cy kS vS (ltS 15) (kS 15) (vS 15) (by decide)) (bigV 0 hts (big_at 41 21 rfl) (big_at 32 16 rfl) (big_at 42 0 rfl) (big_at 41 22 rfl) (big_at 41 23 rfl) rfl rfl (by decide +kernel) ⟨Nat.le_of_ble_eq_true rfl, Nat.le_of_ble_eq_true rfl⟩) ⟨fun b2 U g mk q => ⟨q.1, PTx.blind U g mk b2 q.2⟩, hT.recv, fun U hU hW => ⟨rfl, PTx.at hT hSK hDZ hS (fun q h => h) hK hP U hU hW⟩⟩ (g := F0 m _ ls _) rfl rfl hl.1 rfl (lv_room (Nat.le_of_ble_eq_true rfl)) dJ0_indexOf_7cf53_1 ⟨Nat.le_of_ble_eq_true rfl, Nat.le_of_ble_eq_true rfl⟩) ?_
  refine lv_if_eq (tgt := 23) hx hb dJ0_indexOf_7cf53_4 (by decide) (fun c9 => absurd c9 (by decide)) (fun _ => ?_)
  refine lv_aload_n hx hb dJ0_indexOf_7cf53_7 rfl (lv_at hl 0 rfl) ?_
  refine vk_getf hx hb (hT).2.2.1 hS hown (hts _ (big_at 34 5 rfl)) (fun _ h9 => h9) dJ0_indexOf_7cf53_8 ?_
  refine lv_iload_n hx hb dJ0_indexOf_7cf53_11 rfl (lv_at hl 1 rfl) ?_
  refine lv_iload_n hx hb dJ0_indexOf_7cf53_12 rfl (lv_at hl 2 rfl) ?_
  refine lv_aload_n hx hb dJ0_indexOf_7cf53_13 rfl (lv_at hl 0 rfl) ?_
  refine m_ro (va_runV S9 (z_length l G cy kS vS (ltS 15) (kS 15) (vS 15) (by decide)) (bigV 0 hts (big_at 43 6 rfl) (big_at 32 16 rfl) (big_at 34 4 rfl) (big_at 34 2 rfl) (big_at 34 3 rfl) rfl rfl (by decide +kernel) ⟨Nat.le_of_ble_eq_true rfl, Nat.le_of_ble_eq_true rfl⟩) ⟨fun b2 U g mk q => ⟨q.1, PTx.blind U g mk b2 q.2⟩, hT.recv, fun U hU hW => ⟨rfl, PTx.at hT hSK hDZ hS (fun q h => h) hK hP U hU hW⟩⟩ (g := F0 m _ ls _) rfl rfl hl.1 rfl (lv_room (Nat.le_of_ble_eq_true rfl)) dJ0_indexOf_7cf53_14 ⟨Nat.le_of_ble_eq_true rfl, Nat.le_of_ble_eq_true rfl⟩) ?_
  refine lv_t0 (show (nI (ltS 15).length) = 5 from by decide) ?_
  refine m_ro (va_runS S9 (s_ixB4 l G cy kS vS) (bigS 4 hts (big_at 43 7 rfl) (big_at 35 6 rfl) (big_at 43 9 rfl) (big_at 43 8 rfl) rfl rfl (by decide +kernel) ⟨Nat.le_of_ble_eq_true rfl, Nat.le_of_ble_eq_true rfl⟩) ⟨fun b2 U g mk q => ⟨q.1, PJ.blind U g mk b2 q.2⟩, fun U hU hW => ⟨rfl, PJ.at hSK hDZ hS (fun q h => h) hK hP U hU hW⟩⟩ (g := F0 m _ ls _) rfl rfl hl.1 rfl (lv_room (Nat.le_of_ble_eq_true rfl)) dJ0_indexOf_7cf53_17 ⟨Nat.le_of_ble_eq_true rfl, Nat.le_of_ble_eq_true rfl⟩) ?_
  refine lv_goto (tgt := 36) hx hb dJ0_indexOf_7cf53_20 (by decide) ?_
  exact ro_iret hx hb hr hlocks rfl dJ0_indexOf_7cf53_36
set_option maxRecDepth 100000 in
set_option maxHeartbeats 2000000 in
theorem z_ix4 (l : Launch) (G : va_G) (cy : Nat → ClassId) (kS vS : Nat → Nat)  : RO l yJ0_indexOf_0f7a4 wsL_law { frames := 4, cells := 0, slots := 0, locals := 180 } (PJ G cy kS vS ([])) [.ref (kS 15), .int 100] (some (.int 4)) := by
  refine RO.ofB (cc := cJ0_indexOf_0f7a4) (maxL := 2) (ret := (some .int)) (by decide) (big_at 43 1 rfl) (Nat.le_of_ble_eq_true rfl) ?_
  intro p e s m below meth cq S9 hr hlocks hPB ls hl
  obtain ⟨hx, hb, hml, hown, hts⟩ := id S9
  obtain ⟨⟨hP, hK⟩, hSK, hDZ⟩ := hPB
  have hS : va_S (va_A ([]) s.heap.size) s.heap s.heap [] := va_S.rf
  have hl : lv_has ls 2 [(0, .ref (kS 15)), (1, .int 100)] := hl
  have hT : strI (ltS 15).length (ltS 15) (kS 15) (vS 15) (va_A [] s.heap.size) s s.heap := hSK.1.1 15 (by decide)
  have hP : va_P G vwCl [] s.heap := hP
  refine lv_aload_n hx hb dJ0_indexOf_0f7a4_0 rfl (lv_at hl 0 rfl) ?_
  refine lv_iload_n hx hb dJ0_indexOf_0f7a4_1 rfl (lv_at hl 1 rfl) ?_
  refine lv_iconst (v := 0) hx hb dJ0_indexOf_0f7a4_2 (by decide) ?_
  refine m_ro (va_runV S9 (s_ixA4 l G cy kS vS) (bigV 2 hts (big_at 43 2 rfl) (big_at 32 16 rfl) (big_at 43 5 rfl) (big_at 43 3 rfl) (big_at 43 4 rfl) rfl rfl (by decide +kernel) ⟨Nat.le_of_ble_eq_true rfl, Nat.le_of_ble_eq_true rfl⟩) ⟨fun b2 U g mk q => ⟨q.1, PJ.blind U g mk b2 q.2⟩, hT.recv, fun U hU hW => ⟨rfl, PJ.at hSK hDZ hS (fun q h => h) hK hP U hU hW⟩⟩ (g := F0 m _ ls _) rfl rfl hl.1 rfl (lv_room (Nat.le_of_ble_eq_true rfl)) dJ0_indexOf_0f7a4_3 ⟨Nat.le_of_ble_eq_true rfl, Nat.le_of_ble_eq_true rfl⟩) ?_
  exact ro_iret hx hb hr hlocks rfl dJ0_indexOf_0f7a4_6
