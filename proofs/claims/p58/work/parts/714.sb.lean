/-! append(int) that grows, toString -/
theorem sub_J6_stringSize_0f7a4 : ∀ w ∈ wsJ6_stringSize_0f7a4, w ∈ wsL_law := big_cons (big_at 30 4 rfl) big_nil
theorem sub_J6_getChars_ba4f3 : ∀ w ∈ wsJ6_getChars_ba4f3, w ∈ wsL_law := big_cons (big_at 32 1 rfl) (big_sub [(32, 2), (32, 3)] (by decide +kernel))
theorem sub_J4_append_bf812 : ∀ w ∈ wsJ4_append_bf812, w ∈ wsL_law := big_cons (big_at 29 18 rfl) (big_app (big_app (big_sub [(29, 19), (29, 20), (29, 21), (29, 22), (4, 18), (29, 23), (30, 0), (4, 23), (30, 1), (30, 2), (30, 3), (30, 4), (30, 5), (30, 6), (30, 7), (30, 8), (30, 9), (5, 0), (30, 10), (30, 11), (30, 12), (30, 13), (30, 14), (30, 15)] (by decide +kernel)) (big_app (big_sub [(30, 16), (30, 17), (30, 18), (30, 19), (30, 20), (30, 21), (6, 21), (30, 22), (30, 23), (31, 0), (31, 1), (31, 2), (31, 3), (31, 4), (31, 5), (31, 6), (31, 7), (31, 8), (31, 9), (31, 10), (31, 11), (31, 12), (4, 22), (31, 13)] (by decide +kernel)) (big_app (big_sub [(6, 20), (6, 22), (31, 14), (31, 15), (31, 16), (31, 17), (31, 18), (31, 19), (31, 20), (31, 21), (31, 22), (4, 21), (31, 23), (32, 0), (32, 1), (32, 2), (32, 3), (32, 4), (32, 5), (5, 3), (32, 6), (32, 7), (32, 8), (32, 9)] (by decide +kernel)) (big_sub [(32, 10), (32, 11), (32, 12), (32, 13), (32, 14), (32, 15), (32, 16), (32, 17), (32, 18), (32, 19), (32, 20), (32, 21), (32, 22), (32, 23), (33, 0), (33, 1), (33, 2), (33, 3), (33, 4), (33, 5), (33, 6), (33, 7), (33, 8)] (by decide +kernel))))) (big_row 57 rfl))
theorem sub_J4_init_da8c8 : ∀ w ∈ wsJ4_init_da8c8, w ∈ wsL_law := big_cons (big_at 4 15 rfl) (big_app (big_sub [(4, 16), (4, 17), (4, 18), (4, 19), (4, 20), (0, 11), (0, 12), (4, 21), (4, 22), (4, 23), (5, 0), (5, 1), (5, 2), (5, 3), (5, 4), (5, 5), (5, 6), (5, 7), (5, 8)] (by decide +kernel)) (big_row 57 rfl))
set_option maxRecDepth 100000 in
set_option maxHeartbeats 1000000 in
theorem c_J6_getChars_2g (l : Launch) (G : va_G) (cy : Nat → ClassId) (kS vS : Nat → Nat) (vb n : Nat) (f : Nat → Int32) (k : Nat) (hk9 : k < 1000) (hlo : 10 ≤ k) (hhi : k < 100) (hn9 : n + 2 ≤ 34) : WC l yJ6_getChars_ba4f3 wsJ6_getChars_ba4f3 { frames := 0, cells := 0, slots := 0, locals := 0 } G (PD G cy kS vS [(vb, .inl (cy 0, 34, .inl f))]) [.int (nI k), .int (nI (n + 2)), .ref vb] [(vb, .inl (cy 0, 34, .inl f))] [(vb, .inl (cy 0, 34, .inl (upd (upd f (n + 1) (nI (48 + k % 10))) n (nI (48 + k / 10)))))] (some (.int (nI n))) := by
  refine WC.ofW (cc := cJ6_getChars_ba4f3) (maxL := 7) (ret := (some .int)) (by decide) rfl (Nat.le_of_ble_eq_true rfl) ?_
  intro p e s m below meth cq S9 hr hlocks hPB hD hS ls hl
  obtain ⟨hxq, hb, hml, hown, hts⟩ := id S9
  obtain ⟨⟨⟨hP, hK⟩, hSK⟩, hDZ⟩ := hPB
  have hl : lv_has ls 7 [(0, .int (nI k)), (1, .int (nI (n + 2))), (2, .ref vb)] := hl
  obtain ⟨⟨t1, hz_t1, hv_t1⟩, t2, hz_t2, hv_t2⟩ := id hDZ
  refine lv_iload_n hxq hb dJ6_getChars_ba4f3_0 rfl (lv_at hl 1 rfl) ?_
  refine lv_istore (lv' := [(5, .int (nI (n + 2))), (0, .int (nI k)), (1, .int (nI (n + 2))), (2, .ref vb)]) hxq hb dJ6_getChars_ba4f3_1 hl (by decide) rfl (fun ls hl => ?_)
  refine lv_iload_n hxq hb dJ6_getChars_ba4f3_3 rfl (lv_at hl 1 rfl) ?_
  refine lv_if_ge (tgt := 11) hxq hb dJ6_getChars_ba4f3_4 (by decide) (fun c_1 => ?_) (fun c_1 => ?_)
  · have k_2 : 0 ≤ k := (m_leN (a := 0) (b := k) rfl rfl (by omega) (by omega)).mp c_1
    have k_2' : ¬ (k < 0) := by omega
    refine lv_iconst (v := 0) hxq hb dJ6_getChars_ba4f3_11 (by decide) ?_
    refine lv_istore (lv' := [(6, .int 0), (5, .int (nI (n + 2))), (0, .int (nI k)), (1, .int (nI (n + 2))), (2, .ref vb)]) hxq hb dJ6_getChars_ba4f3_12 hl (by decide) rfl (fun ls hl => ?_)
    refine lv_iload hxq hb dJ6_getChars_ba4f3_14 (lv_at hl 0 rfl) ?_
    refine lv_if_ne (tgt := 22) hxq hb dJ6_getChars_ba4f3_16 (by decide) (fun c_3 => ?_) (fun c_3 => ?_)
    · exact absurd c_3 (by decide)
    · refine lv_iload_n hxq hb dJ6_getChars_ba4f3_19 rfl (lv_at hl 2 rfl) ?_
      refine lv_ineg hxq hb dJ6_getChars_ba4f3_20 ?_
      refine lv_istore_n (lv' := [(0, .int (-(nI k))), (6, .int 0), (5, .int (nI (n + 2))), (1, .int (nI (n + 2))), (2, .ref vb)]) hxq hb dJ6_getChars_ba4f3_21 rfl hl (by decide) rfl (fun ls hl => ?_)
      refine lv_iload_n hxq hb dJ6_getChars_ba4f3_22 rfl (lv_at hl 0 rfl) ?_
      refine lv_bipush (v := (-100)) hxq hb dJ6_getChars_ba4f3_23 (by decide) ?_
      refine lv_icmp_gt (tgt := 72) hxq hb dJ6_getChars_ba4f3_25 (by decide) (fun c_4 => ?_) (fun c_4 => ?_)
      · have c_4' : ¬ (-(nI k)) ≤ (-100) := Int32.not_le.mpr c_4
        refine lv_aload_n hxq hb dJ6_getChars_ba4f3_72 rfl (lv_at hl 4 rfl) ?_
        refine lv_iinc (v := nI (n + 1)) (lv' := [(5, .int (nI (n + 1))), (0, .int (-(nI k))), (6, .int 0), (1, .int (nI (n + 2))), (2, .ref vb)]) hxq hb dJ6_getChars_ba4f3_73 hl (k := 2) rfl (m_dec _) (by decide) rfl (fun ls hl => ?_)
        refine lv_iload hxq hb dJ6_getChars_ba4f3_76 (lv_at hl 0 rfl) ?_
        refine va_gets hxq hb hz_t1 hS hown (hts (.fieldLink RJ6 83 "java/lang/Integer" "DigitOnes" "[B") (by decide +kernel)) (fun _ h9 => h9) dJ6_getChars_ba4f3_78 ?_
        refine lv_iload_n hxq hb dJ6_getChars_ba4f3_81 rfl (lv_at hl 1 rfl) ?_
        refine lv_ineg hxq hb dJ6_getChars_ba4f3_82 ?_
        refine lv_t0 (m_nn k) ?_
        refine va_tb hxq hb hv_t1 hS (i := nI k) (v := .int (nI (48 + k % 10))) (vp_in_nI (show k < 100 by omega) (by decide)) (by rw [nI_clamp (by omega)]; rfl) dJ6_getChars_ba4f3_83 ?_
        refine m_bast hxq hb hK hP hD hS 0 (k := n + 1) rfl rfl (by omega) (Nat.le_of_ble_eq_true rfl) (nar_b (by omega)) dJ6_getChars_ba4f3_84 (fun H locs hP hD hS => ?_)
        have hP : va_P G vwCl [(vb, .inl (cy 0, 34, .inl (upd f (n + 1) (nI (48 + k % 10)))))] H := hP
        have hD : va_D (wA [(vb, .inl (cy 0, 34, .inl f))]) [(vb, .inl (cy 0, 34, .inl (upd f (n + 1) (nI (48 + k % 10)))))] := hD
        refine lv_iload_n hxq hb dJ6_getChars_ba4f3_85 rfl (lv_at hl 1 rfl) ?_
        refine lv_bipush (v := (-9)) hxq hb dJ6_getChars_ba4f3_86 (by decide) ?_
        refine lv_icmp_ge (tgt := 104) hxq hb dJ6_getChars_ba4f3_88 (by decide) (fun c_5 => ?_) (fun c_5 => ?_)
        · exact absurd c_5 (Int32.not_le.mpr (by rw [Int32.lt_iff_toInt_lt, m_ng hk9, show (-9 : Int32).toInt = -9 from by decide]; omega))
        · have c_5' : (-(nI k)) < (-9) := Int32.not_le.mp c_5
          refine lv_aload_n hxq hb dJ6_getChars_ba4f3_91 rfl (lv_at hl 4 rfl) ?_
          refine lv_iinc (v := nI n) (lv' := [(5, .int (nI n)), (0, .int (-(nI k))), (6, .int 0), (1, .int (nI (n + 2))), (2, .ref vb)]) hxq hb dJ6_getChars_ba4f3_92 hl (k := 0) rfl (m_dec _) (by decide) rfl (fun ls hl => ?_)
          refine lv_iload hxq hb dJ6_getChars_ba4f3_95 (lv_at hl 0 rfl) ?_
          refine va_gets hxq hb hz_t2 hS hown (hts (.fieldLink RJ6 87 "java/lang/Integer" "DigitTens" "[B") (by decide +kernel)) (fun _ h9 => h9) dJ6_getChars_ba4f3_97 ?_
          refine lv_iload_n hxq hb dJ6_getChars_ba4f3_100 rfl (lv_at hl 1 rfl) ?_
          refine lv_ineg hxq hb dJ6_getChars_ba4f3_101 ?_
          refine lv_t0 (m_nn k) ?_
          refine va_tb hxq hb hv_t2 hS (i := nI k) (v := .int (nI (48 + k / 10))) (vp_in_nI (show k < 100 by omega) (by decide)) (by rw [nI_clamp (by omega)]; rfl) dJ6_getChars_ba4f3_102 ?_
          refine m_bast hxq hb hK hP hD hS 0 (k := n) rfl rfl (by omega) (Nat.le_of_ble_eq_true rfl) (nar_b (by omega)) dJ6_getChars_ba4f3_103 (fun H locs hP hD hS => ?_)
          have hP : va_P G vwCl [(vb, .inl (cy 0, 34, .inl (upd (upd f (n + 1) (nI (48 + k % 10))) n (nI (48 + k / 10)))))] H := hP
          have hD : va_D (wA [(vb, .inl (cy 0, 34, .inl f))]) [(vb, .inl (cy 0, 34, .inl (upd (upd f (n + 1) (nI (48 + k % 10))) n (nI (48 + k / 10)))))] := hD
          refine lv_iload hxq hb dJ6_getChars_ba4f3_104 (lv_at hl 2 rfl) ?_
          refine lv_if_eq (tgt := 118) hxq hb dJ6_getChars_ba4f3_106 (by decide) (fun c_6 => ?_) (fun c_6 => ?_)
          · refine lv_iload hxq hb dJ6_getChars_ba4f3_118 (lv_at hl 0 rfl) ?_
            exact wc_iret hxq hb hr hlocks hP hS rfl dJ6_getChars_ba4f3_120
          · exact absurd c_6 (by decide)
      · exact absurd (show (-100 : Int32) < -(nI k) from m_gtN (by omega) (show (-100 : Int32).toInt = -100 from by decide) (by omega)) c_4
  · exact absurd (by rw [Int32.le_iff_toInt_le, nI_toInt (by omega), Int32.toInt_zero]; omega) c_1
theorem fit_dg {d : Nat} (h : d < 10) : fits .byte (.int (nI (48 + d))) = true := by
  have e : ∀ d, d < 10 → fits .byte (.int (nI (48 + d))) = true := by decide
  exact e d h
theorem FB_dgs {k : Nat} (h : k < 1000) : FB (dgs k) := by
  intro c hc
  unfold dgs at hc
  split at hc
  · simp only [List.mem_cons, List.not_mem_nil, or_false] at hc
    rw [hc]; exact fit_dg (by omega)
  · split at hc
    · simp only [List.mem_cons, List.not_mem_nil, or_false] at hc
      rcases hc with hc | hc <;> rw [hc]
      · exact fit_dg (by omega)
      · exact fit_dg (by omega)
    · simp only [List.mem_cons, List.not_mem_nil, or_false] at hc
      rcases hc with hc | hc | hc <;> rw [hc]
      · exact fit_dg (by omega)
      · exact fit_dg (by omega)
      · exact fit_dg (by omega)
theorem dgs_len {k : Nat} : (dgs k).length ≤ 3 := by
  unfold dgs
  split
  · simp
  · split <;> simp
theorem dgs_len2 {k : Nat} (h1 : ¬ k < 10) (h2 : k < 100) : dgs k = [nI (48 + k / 10), nI (48 + k % 10)] := (if_neg h1).trans (if_pos h2)
theorem dgs_len1 {k : Nat} (h1 : k < 10) : dgs k = [nI (48 + k)] := if_pos h1
theorem wrS_two {f : Nat → Int32} {n : Nat} {a b : Int32} : upd (upd f (n + 1) b) n a = wrS f n [a, b] := upd_comm (by omega)
theorem z_appN (l : Launch) (G : va_G) (cy : Nat → ClassId) (kS vS : Nat → Nat) (sb vb : Nat) (ml : Int32) (lt : List Int32) (f : Nat → Int32) (k : Nat) (hx9 : BTx 16 lt f) (hk9 : k < 1000) (hn9 : lt.length + 3 ≤ 16) : GR (T9 := Nat × Nat × (Nat → Int32)) l yJ4_append_bf812 { frames := 2, cells := 0, slots := 0, locals := 49 } 0 0 G (PJ G cy kS vS (sbW cy sb vb 16 ml lt.length f)) [.ref sb, .int (nI k)] (sbW cy sb vb 16 ml lt.length f) (fun u => BTx u.2.1 (lt ++ dgs k) u.2.2 ∧ u.2.1 = 16) (fun u => sbW cy sb u.1 u.2.1 ml (lt ++ dgs k).length u.2.2) (fun _ => some (.ref sb)) :=
  GR.ofWC (c_J4_append_num l G cy kS vS sb vb lt.length ml f k hk9 hn9) sub_J4_append_bf812 (fun _ h => h.pd) (vb, 16, wrS f lt.length (dgs k)) ⟨BTx.wr hx9 (FB_dgs hk9) (show lt.length + (dgs k).length ≤ 16 by have := dgs_len (k := k); omega), rfl⟩ (by show sbW cy sb vb 16 ml (lt ++ dgs k).length _ = _; rw [List.length_append]) rfl rfl
theorem z_app1 (l : Launch) (G : va_G) (cy : Nat → ClassId) (kS vS : Nat → Nat) (sb vb : Nat) (ml : Int32) (lt : List Int32) (f : Nat → Int32) (k : Nat) (hx9 : BTx 16 lt f) (hk9 : k < 10) (hn9 : lt.length + 1 ≤ 16) : GR (T9 := Nat × Nat × (Nat → Int32)) l yJ4_append_bf812 { frames := 2, cells := 0, slots := 0, locals := 49 } 0 0 G (PJ G cy kS vS (sbW cy sb vb 16 ml lt.length f)) [.ref sb, .int (nI k)] (sbW cy sb vb 16 ml lt.length f) (fun u => BTx u.2.1 (lt ++ dgs k) u.2.2 ∧ u.2.1 = 16) (fun u => sbW cy sb u.1 u.2.1 ml (lt ++ dgs k).length u.2.2) (fun _ => some (.ref sb)) := by
  have e2 := c_J4_append_bf812_1 l G cy kS vS sb vb lt.length ml f k (by omega) hk9 hn9
  rw [Nat.mod_eq_of_lt hk9] at e2
  have hB := BTx.wr hx9 (FB_dgs (k := k) (by omega)) (show lt.length + (dgs k).length ≤ 16 by rw [dgs_len1 hk9]; exact hn9)
  refine GR.ofWC e2 sub_J4_append_bf812 (fun _ h => h.pd) (vb, 16, wrS f lt.length (dgs k)) ⟨hB, rfl⟩ ?_ rfl rfl
  show sbW cy sb vb 16 ml (lt ++ dgs k).length (wrS f lt.length (dgs k)) = _
  rw [List.length_append, dgs_len1 hk9]
  rfl
set_option maxRecDepth 100000 in
set_option maxHeartbeats 2000000 in
theorem s_sbLat (l : Launch) (G : va_G) (cy : Nat → ClassId) (kS vS : Nat → Nat) (sb : Nat) (vb : Nat) (n : Nat) (ml : Int32) (f : Nat → Int32) (mb : Nat) : RO l yJ5_isLatin1_aae02 wsL_law { frames := 1, cells := 0, slots := 0, locals := 40 } (PJ G cy kS vS ([(sb, .inr (1, [.ref vb, .int 0, .int ml, .int (nI n)])), (vb, .inl (cy 0, mb, .inl f))])) [.ref sb] (some (.int 1)) := by
  refine RO.ofB (cc := cJ5_isLatin1_aae02) (maxL := 1) (ret := (some .boolean)) (by decide) (big_at 31 22 rfl) (Nat.le_of_ble_eq_true rfl) ?_
  intro p e s m below meth cq S9 hr hlocks hPB ls hl
  obtain ⟨hx, hb, hml, hown, hts⟩ := id S9
  obtain ⟨⟨hP, hK⟩, hSK, hDZ⟩ := hPB
  have hS : va_S (va_A ([(sb, .inr (1, [.ref vb, .int 0, .int ml, .int (nI n)])), (vb, .inl (cy 0, mb, .inl f))]) s.heap.size) s.heap s.heap [] := va_S.rf
  have hl : lv_has ls 1 [(0, .ref sb)] := hl
  refine va_gets hx hb hSK.2.2.1 hS hown (hts _ (big_at 4 21 rfl)) (fun _ h9 => h9) dJ5_isLatin1_aae02_0 ?_
  refine lv_if_eq (tgt := 17) hx hb dJ5_isLatin1_aae02_3 (by decide) (fun c9 => absurd c9 (by decide)) (fun _ => ?_)
  refine lv_aload_n hx hb dJ5_isLatin1_aae02_6 rfl (lv_at hl 0 rfl) ?_
  refine va_get (D := G) (ci := 1) (v := .int 0) (C := RJ4) (T := TJ4) (N := 4) hx hb hts hi_J4 hown hK.1 hP 0 rfl rfl 1 (by decide) (hts _ (big_at 5 0 rfl)) (fun _ h9 => h9) rfl dJ5_isLatin1_aae02_7 ?_
  refine lv_if_ne (tgt := 17) hx hb dJ5_isLatin1_aae02_10 (by decide) (fun c9 => absurd (by decide) c9) (fun _ => ?_)
  refine lv_iconst (v := 1) hx hb dJ5_isLatin1_aae02_13 (by decide) ?_
  refine lv_goto (tgt := 18) hx hb dJ5_isLatin1_aae02_14 (by decide) ?_
  exact ro_zret hx hb hr hlocks rfl rfl dJ5_isLatin1_aae02_18
set_option maxRecDepth 100000 in
set_option maxHeartbeats 2000000 in
theorem s_appI5 (l : Launch) (G : va_G) (cy : Nat → ClassId) (kS vS : Nat → Nat) (sb : Nat) (vb : Nat) (ml : Int32) (lt : List Int32) (f : Nat → Int32) (k : Nat) (hx9 : BTx 16 lt f) (hlo : 10 ≤ k) (hhi : k < 100) (hn9 : lt.length = 15) : GR (T9 := Nat × Nat × (Nat → Int32)) l yJ5_append_c97b9 { frames := 6, cells := 1, slots := 34, locals := 320 } 1 34 G (PJ G cy kS vS ([(sb, .inr (1, [.ref vb, .int 0, .int ml, .int (nI lt.length)])), (vb, .inl (cy 0, 16, .inl f))])) [.ref sb, .int (nI k)] ([(sb, .inr (1, [.ref vb, .int 0, .int ml, .int (nI lt.length)])), (vb, .inl (cy 0, 16, .inl f))]) (fun u => BTx u.2.1 (lt ++ dgs k) u.2.2) (fun u => sbW cy sb u.1 u.2.1 ml (lt ++ dgs k).length u.2.2) (fun _ => some (.ref sb)) := by
  refine GR.ofB (cc := cJ5_append_c97b9) (maxL := 4) (ret := (some (.object "java/lang/AbstractStringBuilder"))) (by decide) (big_at 29 23 rfl) (Nat.le_of_ble_eq_true rfl) ?_
  intro p e s m below meth cq S9 hr hlocks hin hPB hD hS hA ls hl
  obtain ⟨hx, hb, hml, hown, hts⟩ := id S9
  obtain ⟨⟨hP, hK⟩, hSK, hDZ⟩ := hPB
  have hl : lv_has ls 4 [(0, .ref sb), (1, .int (nI k))] := hl
  have hB1 := BTx.grow hx9
  have hB2 := BTx.wr hB1 (FB_dgs (k := k) (by omega)) (by rw [dgs_len2 (by omega) hhi]; show lt.length + 2 ≤ 34; omega)
  have hl2 : (lt ++ dgs k).length = lt.length + 2 := by rw [List.length_append, dgs_len2 (by omega) hhi]; rfl
  refine lv_aload_n hx hb dJ5_append_c97b9_0 rfl (lv_at hl 0 rfl) ?_
  refine va_get (D := G) (ci := 1) (v := .int (nI lt.length)) (C := RJ4) (T := TJ4) (N := 4) hx hb hts hi_J4 hown hK.1 hP 0 rfl rfl 3 (by decide) (hts _ (big_at 30 0 rfl)) (fun _ h9 => h9) rfl dJ5_append_c97b9_1 ?_
  refine lv_istore_n (lv' := [(2, .int (nI lt.length)), (0, .ref sb), (1, .int (nI k))]) hx hb dJ5_append_c97b9_4 rfl hl (by decide) rfl (fun ls hl => ?_)
  refine lv_iload_n hx hb dJ5_append_c97b9_5 rfl (lv_at hl 0 rfl) ?_
  refine lv_iload_n hx hb dJ5_append_c97b9_6 rfl (lv_at hl 2 rfl) ?_
  refine m_ro (va_runS S9 (RO.up (c_J6_stringSize_2 l G cy k (by omega) hlo hhi) sub_J6_stringSize_0f7a4 (fun _ h => h)) (bigS 1 hts (big_at 30 1 rfl) (big_at 30 3 rfl) (big_at 30 4 rfl) (big_at 30 2 rfl) rfl rfl (by decide +kernel) ⟨Nat.le_of_ble_eq_true rfl, Nat.le_of_ble_eq_true rfl⟩) ⟨fun b2 U g mk q => ⟨q.1, PB.blind U g mk b2 q.2⟩, fun U hU hW => ⟨rfl, PB.at hK (m_Ppart hP [] rfl) U hU hW⟩⟩ (g := F0 m _ ls _) rfl rfl hl.1 rfl (lv_room (Nat.le_of_ble_eq_true rfl)) dJ5_append_c97b9_7 ⟨Nat.le_of_ble_eq_true rfl, Nat.le_of_ble_eq_true rfl⟩) ?_
  refine lv_iadd hx hb dJ5_append_c97b9_10 ?_
  refine lv_t0 (show ((nI lt.length) + 2) = nI (lt.length + 2) from nI_add _ 2) ?_
  refine lv_istore_n (lv' := [(3, .int (nI (lt.length + 2))), (2, .int (nI lt.length)), (0, .ref sb), (1, .int (nI k))]) hx hb dJ5_append_c97b9_11 rfl hl (by decide) rfl (fun ls hl => ?_)
  refine lv_aload_n hx hb dJ5_append_c97b9_12 rfl (lv_at hl 2 rfl) ?_
  refine lv_iload_n hx hb dJ5_append_c97b9_13 rfl (lv_at hl 0 rfl) ?_
  have hP : va_P G vwCl ([] ++ [(sb, .inr (1, [.ref vb, .int 0, .int ml, .int (nI lt.length)])), (vb, .inl (cy 0, 16, .inl f))]) _ := hP
  have hD : va_D (va_A ([(sb, .inr (1, [.ref vb, .int 0, .int ml, .int (nI lt.length)])), (vb, .inl (cy 0, 16, .inl f))]) s.heap.size) ([] ++ [(sb, .inr (1, [.ref vb, .int 0, .int ml, .int (nI lt.length)])), (vb, .inl (cy 0, 16, .inl f))]) := hD
  have hFw := free_of hD hS hA
  refine g_run (va_runU S9 ((s_ens1 l G cy kS vS sb vb lt.length ml f (lt.length + 2) (by omega) (by omega) hx9.2.2.1) _) (bigU (owner := "java/lang/AbstractStringBuilder") 1 hts (big_at 30 5 rfl) (big_at 30 6 rfl) (big_at 30 7 rfl) (big_at 30 8 rfl) (big_at 4 18 rfl) (big_at 30 9 rfl) rfl rfl rfl (by decide +kernel) ⟨Nat.le_of_ble_eq_true rfl, Nat.le_of_ble_eq_true rfl⟩) ⟨fun b2 U g mk q => ⟨q.1, q.2.1, PJ.blind U g mk b2 q.2.2.1, q.2.2.2⟩, va_recv hK.1 hP (ci := 1) (q0 := 0) rfl rfl, fun U hU hW => ⟨rfl, (congrArg Array.size hU), PJ.at hSK hDZ hS hFw hK (strip_P hP) U hU hW, (strip_D hD).weaken (fun _ _ _ _ => trivial)⟩⟩ (g := F0 m _ ls _) rfl rfl hl.1 rfl (lv_room (Nat.le_of_ble_eq_true rfl)) dJ5_append_c97b9_14 ⟨Nat.le_of_ble_eq_true rfl, Nat.le_of_ble_eq_true rfl⟩) hP hD hS hA (fun u H locs hu hP hD hS => ?_)
  have hP : va_P G vwCl [(sb, .inr (1, [.ref u, .int 0, .int ml, .int (nI lt.length)])), (u, .inl (cy 0, 34, .inl (va_cpy f (fun _ => 0) 0 0 16)))] _ := hP
  have hD : va_D (va_A ([(sb, .inr (1, [.ref vb, .int 0, .int ml, .int (nI lt.length)])), (vb, .inl (cy 0, 16, .inl f))]) s.heap.size) [(sb, .inr (1, [.ref u, .int 0, .int ml, .int (nI lt.length)])), (u, .inl (cy 0, 34, .inl (va_cpy f (fun _ => 0) 0 0 16)))] := hD
  refine lv_aload_n hx hb dJ5_append_c97b9_17 rfl (lv_at hl 2 rfl) ?_
  refine m_ro (va_runU S9 (s_sbLat l G cy kS vS sb u lt.length ml (va_cpy f (fun _ => 0) 0 0 16) 34) (bigU (owner := "java/lang/AbstractStringBuilder") 0 hts (big_at 31 18 rfl) (big_at 31 19 rfl) (big_at 31 20 rfl) (big_at 31 21 rfl) (big_at 4 18 rfl) (big_at 31 22 rfl) rfl rfl rfl (by decide +kernel) ⟨Nat.le_of_ble_eq_true rfl, Nat.le_of_ble_eq_true rfl⟩) ⟨fun b2 U g mk q => ⟨q.1, PJ.blind U g mk b2 q.2⟩, va_recv hK.1 hP (ci := 1) (q0 := 0) rfl rfl, fun U hU hW => ⟨rfl, PJ.at hSK hDZ hS (fr_all hD hS hA) hK hP U hU hW⟩⟩ (g := F0 m _ ls _) rfl rfl hl.1 rfl (lv_room (Nat.le_of_ble_eq_true rfl)) dJ5_append_c97b9_18 ⟨Nat.le_of_ble_eq_true rfl, Nat.le_of_ble_eq_true rfl⟩) ?_
  refine lv_if_eq (tgt := 37) hx hb dJ5_append_c97b9_21 (by decide) (fun c9 => absurd c9 (by decide)) (fun _ => ?_)
  refine lv_iload_n hx hb dJ5_append_c97b9_24 rfl (lv_at hl 3 rfl) ?_
  refine lv_iload_n hx hb dJ5_append_c97b9_25 rfl (lv_at hl 0 rfl) ?_
  refine lv_aload_n hx hb dJ5_append_c97b9_26 rfl (lv_at hl 2 rfl) ?_
  refine va_get (D := G) (ci := 1) (v := .ref u) (C := RJ4) (T := TJ4) (N := 4) hx hb hts hi_J4 hown hK.1 hP 0 rfl rfl 0 (by decide) (hts _ (big_at 4 23 rfl)) (fun _ h9 => h9) rfl dJ5_append_c97b9_27 ?_
  have hP : va_P G vwCl ([(sb, .inr (1, [.ref u, .int 0, .int ml, .int (nI lt.length)]))] ++ [(u, .inl (cy 0, 34, .inl (va_cpy f (fun _ => 0) 0 0 16)))]) _ := hP
  have hD : va_D (va_A ([(sb, .inr (1, [.ref vb, .int 0, .int ml, .int (nI lt.length)])), (vb, .inl (cy 0, 16, .inl f))]) s.heap.size) ([(sb, .inr (1, [.ref u, .int 0, .int ml, .int (nI lt.length)]))] ++ [(u, .inl (cy 0, 34, .inl (va_cpy f (fun _ => 0) 0 0 16)))]) := hD
  have hFw := free_of hD hS hA
  refine g_run (va_runS S9 ((GR.ofWC (T9 := Unit) (P' := PJ G cy kS vS [(u, .inl (cy 0, 34, .inl (va_cpy f (fun _ => 0) 0 0 16)))]) (mc := 0) (ms := 0) (C := fun _ => True) (w' := fun _ => [(u, .inl (cy 0, 34, .inl (upd (upd (va_cpy f (fun _ => 0) 0 0 16) (lt.length + 1) (nI (48 + k % 10))) lt.length (nI (48 + k / 10)))))]) (r := fun _ => some (.int (nI lt.length))) (c_J6_getChars_2g l G cy kS vS u lt.length (va_cpy f (fun _ => 0) 0 0 16) k (by omega) hlo hhi (by omega)) sub_J6_getChars_ba4f3 (fun _ h => h.pd) () trivial rfl rfl rfl) _) (bigS 3 hts (big_at 31 23 rfl) (big_at 30 3 rfl) (big_at 32 1 rfl) (big_at 32 0 rfl) rfl rfl (by decide +kernel) ⟨Nat.le_of_ble_eq_true rfl, Nat.le_of_ble_eq_true rfl⟩) ⟨fun b2 U g mk q => ⟨q.1, q.2.1, PJ.blind U g mk b2 q.2.2.1, q.2.2.2⟩, fun U hU hW => ⟨rfl, (congrArg Array.size hU), PJ.at hSK hDZ hS hFw hK (strip_P hP) U hU hW, (strip_D hD).weaken (fun _ _ _ _ => trivial)⟩⟩ (g := F0 m _ ls _) rfl rfl hl.1 rfl (lv_room (Nat.le_of_ble_eq_true rfl)) dJ5_append_c97b9_30 ⟨Nat.le_of_ble_eq_true rfl, Nat.le_of_ble_eq_true rfl⟩) hP hD hS hA (fun u2 H locs hu2 hP hD hS => ?_)
  have hP : va_P G vwCl [(sb, .inr (1, [.ref u, .int 0, .int ml, .int (nI lt.length)])), (u, .inl (cy 0, 34, .inl (upd (upd (va_cpy f (fun _ => 0) 0 0 16) (lt.length + 1) (nI (48 + k % 10))) lt.length (nI (48 + k / 10)))))] _ := hP
  have hD : va_D (va_A ([(sb, .inr (1, [.ref vb, .int 0, .int ml, .int (nI lt.length)])), (vb, .inl (cy 0, 16, .inl f))]) s.heap.size) [(sb, .inr (1, [.ref u, .int 0, .int ml, .int (nI lt.length)])), (u, .inl (cy 0, 34, .inl (upd (upd (va_cpy f (fun _ => 0) 0 0 16) (lt.length + 1) (nI (48 + k % 10))) lt.length (nI (48 + k / 10)))))] := hD
  refine lv_pop hx hb dJ5_append_c97b9_33 rfl ?_
  refine lv_goto (tgt := 48) hx hb dJ5_append_c97b9_34 (by decide) ?_
  refine lv_aload_n hx hb dJ5_append_c97b9_48 rfl (lv_at hl 2 rfl) ?_
  refine lv_iload_n hx hb dJ5_append_c97b9_49 rfl (lv_at hl 0 rfl) ?_
  refine lv_t0 (show (nI (lt.length + 2)) = nI (lt ++ dgs k).length from by rw [hl2]) ?_
  refine va_put (D := G) (ci := 1) (v := .int (nI (lt ++ dgs k).length)) (ty := .int) (C := RJ4) (T := TJ4) (N := 4) hx hb hts hi_J4 tyJ4 tyJ4_ok nmJ4 hown hK.1 hP hD hS 0 rfl rfl 3 (by decide) (hts _ (big_at 30 0 rfl)) (fun _ h9 => h9) rfl (by decide +kernel) rfl rfl (Nat.le_of_ble_eq_true rfl) dJ5_append_c97b9_50 (fun H locs hP hD hS => ?_)
  have hP : va_P G vwCl [(sb, .inr (1, [.ref u, .int 0, .int ml, .int (nI (lt ++ dgs k).length)])), (u, .inl (cy 0, 34, .inl (upd (upd (va_cpy f (fun _ => 0) 0 0 16) (lt.length + 1) (nI (48 + k % 10))) lt.length (nI (48 + k / 10)))))] _ := hP
  have hD : va_D (va_A ([(sb, .inr (1, [.ref vb, .int 0, .int ml, .int (nI lt.length)])), (vb, .inl (cy 0, 16, .inl f))]) s.heap.size) [(sb, .inr (1, [.ref u, .int 0, .int ml, .int (nI (lt ++ dgs k).length)])), (u, .inl (cy 0, 34, .inl (upd (upd (va_cpy f (fun _ => 0) 0 0 16) (lt.length + 1) (nI (48 + k % 10))) lt.length (nI (48 + k / 10)))))] := hD
  refine lv_aload_n hx hb dJ5_append_c97b9_53 rfl (lv_at hl 2 rfl) ?_
  have eG : (upd (upd (va_cpy f (fun _ => 0) 0 0 16) (lt.length + 1) (nI (48 + k % 10))) lt.length (nI (48 + k / 10))) = wrS (va_cpy f (fun _ => 0) 0 0 16) lt.length (dgs k) := by rw [dgs_len2 (by omega) hhi]; exact wrS_two
  rw [eG] at hP hD
  exact gr_aret hx hb hr hlocks (Or.inl ⟨_, rfl⟩) (u, 34, wrS (va_cpy f (fun _ => 0) 0 0 16) lt.length (dgs k)) hB2 rfl hP hD hS (Nat.le_of_ble_eq_true rfl) (Nat.le_of_ble_eq_true rfl) dJ5_append_c97b9_54
set_option maxRecDepth 100000 in
set_option maxHeartbeats 2000000 in
theorem s_appI (l : Launch) (G : va_G) (cy : Nat → ClassId) (kS vS : Nat → Nat) (sb : Nat) (vb : Nat) (ml : Int32) (lt : List Int32) (f : Nat → Int32) (k : Nat) (hx9 : BTx 16 lt f) (hlo : 10 ≤ k) (hhi : k < 100) (hn9 : lt.length = 15) : GR (T9 := Nat × Nat × (Nat → Int32)) l yJ4_append_bf812 { frames := 7, cells := 1, slots := 34, locals := 380 } 1 34 G (PJ G cy kS vS ([(sb, .inr (1, [.ref vb, .int 0, .int ml, .int (nI lt.length)])), (vb, .inl (cy 0, 16, .inl f))])) [.ref sb, .int (nI k)] ([(sb, .inr (1, [.ref vb, .int 0, .int ml, .int (nI lt.length)])), (vb, .inl (cy 0, 16, .inl f))]) (fun u => BTx u.2.1 (lt ++ dgs k) u.2.2) (fun u => sbW cy sb u.1 u.2.1 ml (lt ++ dgs k).length u.2.2) (fun _ => some (.ref sb)) := by
  refine GR.ofB (cc := cJ4_append_bf812) (maxL := 2) (ret := (some (.object "java/lang/StringBuilder"))) (by decide) (big_at 29 18 rfl) (Nat.le_of_ble_eq_true rfl) ?_
  intro p e s m below meth cq S9 hr hlocks hin hPB hD hS hA ls hl
  obtain ⟨hx, hb, hml, hown, hts⟩ := id S9
  obtain ⟨⟨hP, hK⟩, hSK, hDZ⟩ := hPB
  have hl : lv_has ls 2 [(0, .ref sb), (1, .int (nI k))] := hl
  refine lv_aload_n hx hb dJ4_append_bf812_0 rfl (lv_at hl 0 rfl) ?_
  refine lv_iload_n hx hb dJ4_append_bf812_1 rfl (lv_at hl 1 rfl) ?_
  have hP : va_P G vwCl ([] ++ [(sb, .inr (1, [.ref vb, .int 0, .int ml, .int (nI lt.length)])), (vb, .inl (cy 0, 16, .inl f))]) _ := hP
  have hD : va_D (va_A ([(sb, .inr (1, [.ref vb, .int 0, .int ml, .int (nI lt.length)])), (vb, .inl (cy 0, 16, .inl f))]) s.heap.size) ([] ++ [(sb, .inr (1, [.ref vb, .int 0, .int ml, .int (nI lt.length)])), (vb, .inl (cy 0, 16, .inl f))]) := hD
  have hFw := free_of hD hS hA
  refine g_run (va_runSU (hK.1.1 1 _ rfl).2 S9 ((s_appI5 l G cy kS vS sb vb ml lt f k hx9 hlo hhi hn9) _) (bigSU 1 hts (big_at 29 19 rfl) (big_at 29 20 rfl) (big_at 29 21 rfl) (big_at 29 22 rfl) (big_at 4 18 rfl) (big_at 29 23 rfl) rfl rfl (by decide +kernel) ⟨Nat.le_of_ble_eq_true rfl, Nat.le_of_ble_eq_true rfl⟩) ⟨fun b2 U g mk q => ⟨q.1, q.2.1, PJ.blind U g mk b2 q.2.2.1, q.2.2.2⟩, va_recv hK.1 hP (ci := 1) (q0 := 0) rfl rfl, fun U hU hW => ⟨rfl, (congrArg Array.size hU), PJ.at hSK hDZ hS hFw hK (strip_P hP) U hU hW, (strip_D hD).weaken (fun _ _ _ _ => trivial)⟩⟩ (g := F0 m _ ls _) rfl rfl hl.1 rfl (lv_room (Nat.le_of_ble_eq_true rfl)) dJ4_append_bf812_2 ⟨Nat.le_of_ble_eq_true rfl, Nat.le_of_ble_eq_true rfl⟩) hP hD hS hA (fun u H locs hu hP hD hS => ?_)
  refine lv_pop hx hb dJ4_append_bf812_5 rfl ?_
  refine lv_aload_n hx hb dJ4_append_bf812_6 rfl (lv_at hl 0 rfl) ?_
  exact gr_aret hx hb hr hlocks (Or.inl ⟨_, rfl⟩) u hu rfl hP hD hS (Nat.le_of_ble_eq_true rfl) (Nat.le_of_ble_eq_true rfl) dJ4_append_bf812_7
set_option maxRecDepth 100000 in
set_option maxHeartbeats 2000000 in
theorem s_chkLen (l : Launch) (G : va_G) (cy : Nat → ClassId) (kS vS : Nat → Nat) (a : Nat) (b : Nat) (hab : a ≤ b) (hb9 : b < 1000) : RO l yJ7_checkLength_df160 wsL_law { frames := 1, cells := 0, slots := 0, locals := 40 } (PJ G cy kS vS ([])) [.int (nI a), .int (nI b)] (none) := by
  refine RO.ofB (cc := cJ7_checkLength_df160) (maxL := 2) (ret := none) (by decide) (big_at 37 15 rfl) (Nat.le_of_ble_eq_true rfl) ?_
  intro p e s m below meth cq S9 hr hlocks hPB ls hl
  obtain ⟨hx, hb, hml, hown, hts⟩ := id S9
  obtain ⟨⟨hP, hK⟩, hSK, hDZ⟩ := hPB
  have hS : va_S (va_A ([]) s.heap.size) s.heap s.heap [] := va_S.rf
  have hl : lv_has ls 2 [(0, .int (nI a)), (1, .int (nI b))] := hl
  refine lv_iload_n hx hb dJ7_checkLength_df160_0 rfl (lv_at hl 1 rfl) ?_
  refine lv_iload_n hx hb dJ7_checkLength_df160_1 rfl (lv_at hl 0 rfl) ?_
  refine lv_icmp_ge (tgt := 37) hx hb dJ7_checkLength_df160_2 (by decide) (fun _ => ?_) (fun c9 => absurd ((nI_leI (by omega) (by omega)).mpr hab) c9)
  exact W.vret hx hb hr (fun t ht _ => ⟨rfl, ht⟩) (fun q h => by cases h) dJ7_checkLength_df160_37 hlocks
set_option maxRecDepth 100000 in
set_option maxHeartbeats 2000000 in
theorem s_corB (l : Launch) (G : va_G) (cy : Nat → ClassId) (kS vS : Nat → Nat) (vb : Nat) (f : Nat → Int32) (mb : Nat) (n : Nat) (hn9 : n < mb) (hmb : mb ≤ 34) (hf : ∀ i, i < mb → fits .byte (.int (f i)) = true) : GR (T9 := Nat) l yJ7_copyOfRangeByte_39247 { frames := 3, cells := 1, slots := 34, locals := 120 } 1 34 G (PJ G cy kS vS ([(vb, .inl (cy 0, mb, .inl f))])) [.ref vb, .int 0, .int (nI n)] ([(vb, .inl (cy 0, mb, .inl f))]) (fun _ => True) (fun u => [(vb, .inl (cy 0, mb, .inl f)), (u, .inl (cy 0, n, .inl (va_cpy f (fun _ => 0) 0 0 n)))]) (fun u => some (.ref u)) := by
  refine GR.ofB (cc := cJ7_copyOfRangeByte_39247) (maxL := 5) (ret := (some (.array .byte))) (by decide) (big_at 37 12 rfl) (Nat.le_of_ble_eq_true rfl) ?_
  intro p e s m below meth cq S9 hr hlocks hin hPB hD hS hA ls hl
  obtain ⟨hx, hb, hml, hown, hts⟩ := id S9
  obtain ⟨⟨hP, hK⟩, hSK, hDZ⟩ := hPB
  have hl : lv_has ls 5 [(0, .ref vb), (1, .int 0), (2, .int (nI n))] := hl
  refine lv_iload_n hx hb dJ7_copyOfRangeByte_39247_0 rfl (lv_at hl 1 rfl) ?_
  refine lv_iload_n hx hb dJ7_copyOfRangeByte_39247_1 rfl (lv_at hl 2 rfl) ?_
  refine m_ro (va_runS S9 (s_chkLen l G cy kS vS 0 n (Nat.zero_le _) (by omega)) (bigS 2 hts (big_at 37 13 rfl) (big_at 31 5 rfl) (big_at 37 15 rfl) (big_at 37 14 rfl) rfl rfl (by decide +kernel) ⟨Nat.le_of_ble_eq_true rfl, Nat.le_of_ble_eq_true rfl⟩) ⟨fun b2 U g mk q => ⟨q.1, PJ.blind U g mk b2 q.2⟩, fun U hU hW => ⟨rfl, PJ.at hSK hDZ hS (fr_nil hS hA) hK (m_Ppart hP [] rfl) U hU hW⟩⟩ (g := F0 m _ ls _) rfl rfl hl.1 rfl (lv_room (Nat.le_of_ble_eq_true rfl)) dJ7_copyOfRangeByte_39247_2 ⟨Nat.le_of_ble_eq_true rfl, Nat.le_of_ble_eq_true rfl⟩) ?_
  refine lv_iload_n hx hb dJ7_copyOfRangeByte_39247_5 rfl (lv_at hl 2 rfl) ?_
  refine lv_iload_n hx hb dJ7_copyOfRangeByte_39247_6 rfl (lv_at hl 1 rfl) ?_
  refine lv_isub hx hb dJ7_copyOfRangeByte_39247_7 ?_
  refine lv_t0 (show ((nI n) - 0) = nI n from (Int32.sub_zero _)) ?_
  refine lv_istore_n (lv' := [(3, .int (nI n)), (0, .ref vb), (1, .int 0), (2, .int (nI n))]) hx hb dJ7_copyOfRangeByte_39247_8 rfl hl (by decide) rfl (fun ls hl => ?_)
  refine lv_iload_n hx hb dJ7_copyOfRangeByte_39247_9 rfl (lv_at hl 0 rfl) ?_
  refine m_newa (atype := .byte) (ty := .byte) (N' := n) (a0 := (n, .inl (fun _ => 0))) hx hb (hts _ (big_at 4 22 rfl)) rfl hK 0 rfl hP hD hS hA (fun _ => rfl) (fun z => absurd ((nI_ltI (b := 0) (by omega) (by omega)).mp z) (Nat.not_lt_zero _)) (nI_clamp (by omega)) (show n * 1 ≤ 536870912 by omega) (show _ ≤ 1 by omega) (show _ ≤ 34 by omega) dJ7_copyOfRangeByte_39247_10 (fun x0 H hP hD hS => ?_)
  have hP : va_P G vwCl [(vb, .inl (cy 0, mb, .inl f)), (x0, .inl (cy 0, n, .inl (fun _ => 0)))] _ := hP
  have hD : va_D (va_A ([(vb, .inl (cy 0, mb, .inl f))]) s.heap.size) [(vb, .inl (cy 0, mb, .inl f)), (x0, .inl (cy 0, n, .inl (fun _ => 0)))] := hD
  refine lv_astore (lv' := [(4, .ref x0), (3, .int (nI n)), (0, .ref vb), (1, .int 0), (2, .int (nI n))]) hx hb dJ7_copyOfRangeByte_39247_12 hl (by decide) rfl (fun ls hl => ?_)
  refine lv_aload_n hx hb dJ7_copyOfRangeByte_39247_14 rfl (lv_at hl 2 rfl) ?_
  refine lv_iload_n hx hb dJ7_copyOfRangeByte_39247_15 rfl (lv_at hl 3 rfl) ?_
  refine lv_aload hx hb dJ7_copyOfRangeByte_39247_16 (lv_at hl 0 rfl) ?_
  refine lv_iconst (v := 0) hx hb dJ7_copyOfRangeByte_39247_18 (by decide) ?_
  refine lv_aload_n hx hb dJ7_copyOfRangeByte_39247_19 rfl (lv_at hl 2 rfl) ?_
  refine va_alen hx hb hK.1 hP 0 0 rfl rfl rfl dJ7_copyOfRangeByte_39247_20 ?_
  refine lv_iload_n hx hb dJ7_copyOfRangeByte_39247_21 rfl (lv_at hl 3 rfl) ?_
  refine lv_isub hx hb dJ7_copyOfRangeByte_39247_22 ?_
  refine lv_t0 (show ((nI mb) - 0) = nI mb from (Int32.sub_zero _)) ?_
  refine lv_iload_n hx hb dJ7_copyOfRangeByte_39247_23 rfl (lv_at hl 1 rfl) ?_
  refine va_mmin hx hb (hml.trans hl.1.symm) hown (hts _ (big_at 31 13 rfl)) (hts _ (big_at 6 20 rfl)) (hts _ (big_at 6 21 rfl)) (hts _ (big_at 6 22 rfl)) (by decide) (Nat.le_of_ble_eq_true rfl) (show _ ≤ 1 by omega) (show _ ≤ 34 by omega) dJ7_copyOfRangeByte_39247_24 ?_
  refine lv_t0 (show (if (nI n) < (nI mb) then (nI n) else (nI mb)) = nI n from (if_pos ((nI_ltI (by omega) (by omega)).mpr hn9))) ?_
  refine va_copyi hx hb (hml.trans hl.1.symm) hown (hts _ (big_at 31 14 rfl)) (hts _ (big_at 31 15 rfl)) (hts _ (big_at 31 16 rfl)) (hts _ (big_at 31 17 rfl)) hK.1 hP hD hS 0 1 0 0 rfl rfl rfl rfl rfl (sp := nI 0) (dp := nI 0) (n := nI n) (fun z => absurd ((nI_ltI (b := 0) (by omega) (by omega)).mp z) (Nat.not_lt_zero _)) (fun z => absurd ((nI_ltI (b := 0) (by omega) (by omega)).mp z) (Nat.not_lt_zero _)) (fun z => absurd ((nI_ltI (b := 0) (by omega) (by omega)).mp z) (Nat.not_lt_zero _)) (by rw [nI_clamp (show 0 < 2 ^ 31 by omega), nI_clamp (show n < 2 ^ 31 by omega)]; omega) (by rw [nI_clamp (show 0 < 2 ^ 31 by omega), nI_clamp (show n < 2 ^ 31 by omega)]; omega) (by rw [nI_clamp (show 0 < 2 ^ 31 by omega), nI_clamp (show n < 2 ^ 31 by omega)]; exact (fun i hi => by rw [Nat.zero_add]; exact hf i (by omega))) (Nat.le_of_ble_eq_true rfl) (by decide) dJ7_copyOfRangeByte_39247_27 (fun H locs hP hD hS => ?_)
  rw [nI_clamp (show 0 < 2 ^ 31 by omega), nI_clamp (show n < 2 ^ 31 by omega)] at hP hD
  have hP : va_P G vwCl [(vb, .inl (cy 0, mb, .inl f)), (x0, .inl (cy 0, n, .inl (va_cpy f (fun _ => 0) 0 0 n)))] _ := hP
  have hD : va_D (va_A ([(vb, .inl (cy 0, mb, .inl f))]) s.heap.size) [(vb, .inl (cy 0, mb, .inl f)), (x0, .inl (cy 0, n, .inl (va_cpy f (fun _ => 0) 0 0 n)))] := hD
  refine lv_aload hx hb dJ7_copyOfRangeByte_39247_30 (lv_at hl 0 rfl) ?_
  exact gr_aret hx hb hr hlocks (Or.inr ⟨_, rfl⟩) x0 trivial rfl hP hD hS (show _ ≤ 1 by omega) (show _ ≤ 34 by omega) dJ7_copyOfRangeByte_39247_32
set_option maxRecDepth 100000 in
set_option maxHeartbeats 2000000 in
theorem s_cor (l : Launch) (G : va_G) (cy : Nat → ClassId) (kS vS : Nat → Nat) (vb : Nat) (f : Nat → Int32) (mb : Nat) (n : Nat) (hn9 : n < mb) (hmb : mb ≤ 34) (hf : ∀ i, i < mb → fits .byte (.int (f i)) = true) : GR (T9 := Nat) l yJ7_copyOfRange_39247 { frames := 4, cells := 1, slots := 34, locals := 180 } 1 34 G (PJ G cy kS vS ([(vb, .inl (cy 0, mb, .inl f))])) [.ref vb, .int 0, .int (nI n)] ([(vb, .inl (cy 0, mb, .inl f))]) (fun _ => True) (fun u => [(vb, .inl (cy 0, mb, .inl f)), (u, .inl (cy 0, n, .inl (va_cpy f (fun _ => 0) 0 0 n)))]) (fun u => some (.ref u)) := by
  refine GR.ofB (cc := cJ7_copyOfRange_39247) (maxL := 3) (ret := (some (.array .byte))) (by decide) (big_at 37 9 rfl) (Nat.le_of_ble_eq_true rfl) ?_
  intro p e s m below meth cq S9 hr hlocks hin hPB hD hS hA ls hl
  obtain ⟨hx, hb, hml, hown, hts⟩ := id S9
  obtain ⟨⟨hP, hK⟩, hSK, hDZ⟩ := hPB
  have hl : lv_has ls 3 [(0, .ref vb), (1, .int 0), (2, .int (nI n))] := hl
  refine lv_iload_n hx hb dJ7_copyOfRange_39247_0 rfl (lv_at hl 1 rfl) ?_
  refine lv_if_ne (tgt := 10) hx hb dJ7_copyOfRange_39247_1 (by decide) (fun c9 => absurd (by decide) c9) (fun _ => ?_)
  refine lv_iload_n hx hb dJ7_copyOfRange_39247_4 rfl (lv_at hl 2 rfl) ?_
  refine lv_aload_n hx hb dJ7_copyOfRange_39247_5 rfl (lv_at hl 0 rfl) ?_
  refine va_alen hx hb hK.1 hP 0 0 rfl rfl rfl dJ7_copyOfRange_39247_6 ?_
  refine lv_icmp_eq (tgt := 17) hx hb dJ7_copyOfRange_39247_7 (by decide) (fun c9 => absurd c9 (fun z => absurd ((nI_eq (by omega) (by omega)).mp z) (by omega))) (fun _ => ?_)
  refine lv_aload_n hx hb dJ7_copyOfRange_39247_10 rfl (lv_at hl 0 rfl) ?_
  refine lv_iload_n hx hb dJ7_copyOfRange_39247_11 rfl (lv_at hl 1 rfl) ?_
  refine lv_iload_n hx hb dJ7_copyOfRange_39247_12 rfl (lv_at hl 2 rfl) ?_
  have hP : va_P G vwCl ([] ++ [(vb, .inl (cy 0, mb, .inl f))]) _ := hP
  have hD : va_D (va_A ([(vb, .inl (cy 0, mb, .inl f))]) s.heap.size) ([] ++ [(vb, .inl (cy 0, mb, .inl f))]) := hD
  have hFw := free_of hD hS hA
  refine g_run (va_runS S9 ((s_corB l G cy kS vS vb f mb n hn9 hmb hf) _) (bigS 3 hts (big_at 37 10 rfl) (big_at 31 5 rfl) (big_at 37 12 rfl) (big_at 37 11 rfl) rfl rfl (by decide +kernel) ⟨Nat.le_of_ble_eq_true rfl, Nat.le_of_ble_eq_true rfl⟩) ⟨fun b2 U g mk q => ⟨q.1, q.2.1, PJ.blind U g mk b2 q.2.2.1, q.2.2.2⟩, fun U hU hW => ⟨rfl, (congrArg Array.size hU), PJ.at hSK hDZ hS hFw hK (strip_P hP) U hU hW, (strip_D hD).weaken (fun _ _ _ _ => trivial)⟩⟩ (g := F0 m _ ls _) rfl rfl hl.1 rfl (lv_room (Nat.le_of_ble_eq_true rfl)) dJ7_copyOfRange_39247_13 ⟨Nat.le_of_ble_eq_true rfl, Nat.le_of_ble_eq_true rfl⟩) hP hD hS hA (fun u H locs hu hP hD hS => ?_)
  have hP : va_P G vwCl [(vb, .inl (cy 0, mb, .inl f)), (u, .inl (cy 0, n, .inl (va_cpy f (fun _ => 0) 0 0 n)))] _ := hP
  have hD : va_D (va_A ([(vb, .inl (cy 0, mb, .inl f))]) s.heap.size) [(vb, .inl (cy 0, mb, .inl f)), (u, .inl (cy 0, n, .inl (va_cpy f (fun _ => 0) 0 0 n)))] := hD
  exact gr_aret hx hb hr hlocks (Or.inr ⟨_, rfl⟩) u trivial rfl hP hD hS (Nat.le_of_ble_eq_true rfl) (Nat.le_of_ble_eq_true rfl) dJ7_copyOfRange_39247_16
set_option maxRecDepth 100000 in
set_option maxHeartbeats 2000000 in
theorem s_getVal (l : Launch) (G : va_G) (cy : Nat → ClassId) (kS vS : Nat → Nat) (sb : Nat) (vb : Nat) (n : Nat) (ml : Int32) (f : Nat → Int32) (mb : Nat) : RO l yJ5_getValue_6d5f1 wsL_law { frames := 1, cells := 0, slots := 0, locals := 40 } (PJ G cy kS vS ([(sb, .inr (1, [.ref vb, .int 0, .int ml, .int (nI n)])), (vb, .inl (cy 0, mb, .inl f))])) [.ref sb] (some (.ref vb)) := by
  refine RO.ofB (cc := cJ5_getValue_6d5f1) (maxL := 1) (ret := (some (.array .byte))) (by decide) (big_at 36 20 rfl) (Nat.le_of_ble_eq_true rfl) ?_
  intro p e s m below meth cq S9 hr hlocks hPB ls hl
  obtain ⟨hx, hb, hml, hown, hts⟩ := id S9
  obtain ⟨⟨hP, hK⟩, hSK, hDZ⟩ := hPB
  have hS : va_S (va_A ([(sb, .inr (1, [.ref vb, .int 0, .int ml, .int (nI n)])), (vb, .inl (cy 0, mb, .inl f))]) s.heap.size) s.heap s.heap [] := va_S.rf
  have hl : lv_has ls 1 [(0, .ref sb)] := hl
  refine lv_aload_n hx hb dJ5_getValue_6d5f1_0 rfl (lv_at hl 0 rfl) ?_
  refine va_get (D := G) (ci := 1) (v := .ref vb) (C := RJ4) (T := TJ4) (N := 4) hx hb hts hi_J4 hown hK.1 hP 0 rfl rfl 0 (by decide) (hts _ (big_at 4 23 rfl)) (fun _ h9 => h9) rfl dJ5_getValue_6d5f1_1 ?_
  exact W.aret hx hb hr (Or.inr ⟨_, rfl⟩) (Or.inr ⟨_, rfl⟩) (fun t ht _ => ⟨rfl, ht⟩) (fun q h => by cases h) dJ5_getValue_6d5f1_4 hlocks
set_option maxRecDepth 100000 in
set_option maxHeartbeats 2000000 in
theorem s_len5 (l : Launch) (G : va_G) (cy : Nat → ClassId) (kS vS : Nat → Nat) (sb : Nat) (vb : Nat) (n : Nat) (ml : Int32) (f : Nat → Int32) (mb : Nat) : RO l yJ5_length_8abf5 wsL_law { frames := 1, cells := 0, slots := 0, locals := 40 } (PJ G cy kS vS ([(sb, .inr (1, [.ref vb, .int 0, .int ml, .int (nI n)])), (vb, .inl (cy 0, mb, .inl f))])) [.ref sb] (some (.int (nI n))) := by
  refine RO.ofB (cc := cJ5_length_8abf5) (maxL := 1) (ret := (some .int)) (by decide) (big_at 37 5 rfl) (Nat.le_of_ble_eq_true rfl) ?_
  intro p e s m below meth cq S9 hr hlocks hPB ls hl
  obtain ⟨hx, hb, hml, hown, hts⟩ := id S9
  obtain ⟨⟨hP, hK⟩, hSK, hDZ⟩ := hPB
  have hS : va_S (va_A ([(sb, .inr (1, [.ref vb, .int 0, .int ml, .int (nI n)])), (vb, .inl (cy 0, mb, .inl f))]) s.heap.size) s.heap s.heap [] := va_S.rf
  have hl : lv_has ls 1 [(0, .ref sb)] := hl
  refine lv_aload_n hx hb dJ5_length_8abf5_0 rfl (lv_at hl 0 rfl) ?_
  refine va_get (D := G) (ci := 1) (v := .int (nI n)) (C := RJ4) (T := TJ4) (N := 4) hx hb hts hi_J4 hown hK.1 hP 0 rfl rfl 3 (by decide) (hts _ (big_at 30 0 rfl)) (fun _ h9 => h9) rfl dJ5_length_8abf5_1 ?_
  exact ro_iret hx hb hr hlocks rfl dJ5_length_8abf5_4
set_option maxRecDepth 100000 in
set_option maxHeartbeats 2000000 in
theorem s_len4 (l : Launch) (G : va_G) (cy : Nat → ClassId) (kS vS : Nat → Nat) (sb : Nat) (vb : Nat) (n : Nat) (ml : Int32) (f : Nat → Int32) (mb : Nat) : RO l yJ4_length_8abf5 wsL_law { frames := 2, cells := 0, slots := 0, locals := 70 } (PJ G cy kS vS ([(sb, .inr (1, [.ref vb, .int 0, .int ml, .int (nI n)])), (vb, .inl (cy 0, mb, .inl f))])) [.ref sb] (some (.int (nI n))) := by
  refine RO.ofB (cc := cJ4_length_8abf5) (maxL := 1) (ret := (some .int)) (by decide) (big_at 37 2 rfl) (Nat.le_of_ble_eq_true rfl) ?_
  intro p e s m below meth cq S9 hr hlocks hPB ls hl
  obtain ⟨hx, hb, hml, hown, hts⟩ := id S9
  obtain ⟨⟨hP, hK⟩, hSK, hDZ⟩ := hPB
  have hS : va_S (va_A ([(sb, .inr (1, [.ref vb, .int 0, .int ml, .int (nI n)])), (vb, .inl (cy 0, mb, .inl f))]) s.heap.size) s.heap s.heap [] := va_S.rf
  have hl : lv_has ls 1 [(0, .ref sb)] := hl
  refine lv_aload_n hx hb dJ4_length_8abf5_0 rfl (lv_at hl 0 rfl) ?_
  refine m_ro (va_runSU (hK.1.1 1 _ rfl).2 S9 (s_len5 l G cy kS vS sb vb n ml f mb) (bigSU 0 hts (big_at 37 3 rfl) (big_at 36 22 rfl) (big_at 29 21 rfl) (big_at 37 4 rfl) (big_at 4 18 rfl) (big_at 37 5 rfl) rfl rfl (by decide +kernel) ⟨Nat.le_of_ble_eq_true rfl, Nat.le_of_ble_eq_true rfl⟩) ⟨fun b2 U g mk q => ⟨q.1, PJ.blind U g mk b2 q.2⟩, va_recv hK.1 hP (ci := 1) (q0 := 0) rfl rfl, fun U hU hW => ⟨rfl, PJ.at hSK hDZ hS (fun q h => h) hK hP U hU hW⟩⟩ (g := F0 m _ ls _) rfl rfl hl.1 rfl (lv_room (Nat.le_of_ble_eq_true rfl)) dJ4_length_8abf5_1 ⟨Nat.le_of_ble_eq_true rfl, Nat.le_of_ble_eq_true rfl⟩) ?_
  exact ro_iret hx hb hr hlocks rfl dJ4_length_8abf5_4
set_option maxRecDepth 100000 in
set_option maxHeartbeats 2000000 in
theorem s_init2 (l : Launch) (G : va_G) (cy : Nat → ClassId) (kS vS : Nat → Nat) (sb : Nat) (vb : Nat) (n : Nat) (ml : Int32) (f : Nat → Int32) (mb : Nat) (x : Nat) (hn9 : n < mb) (hmb : mb ≤ 34) (hf : ∀ i, i < mb → fits .byte (.int (f i)) = true) : GR (T9 := Nat) l yJ0_init_db425 { frames := 6, cells := 1, slots := 34, locals := 330 } 1 34 G (PJ G cy kS vS ([(sb, .inr (1, [.ref vb, .int 0, .int ml, .int (nI n)])), (vb, .inl (cy 0, mb, .inl f)), (x, .inr (0, [.null, .int 0, .int 0, .int 0]))])) [.ref x, .ref sb, .null] ([(sb, .inr (1, [.ref vb, .int 0, .int ml, .int (nI n)])), (vb, .inl (cy 0, mb, .inl f)), (x, .inr (0, [.null, .int 0, .int 0, .int 0]))]) (fun _ => True) (fun u => [(sb, .inr (1, [.ref vb, .int 0, .int ml, .int (nI n)])), (vb, .inl (cy 0, mb, .inl f)), (x, .inr (0, [.ref u, .int 0, .int 0, .int 0])), (u, .inl (cy 0, n, .inl (va_cpy f (fun _ => 0) 0 0 n)))]) (fun _ => none) := by
  refine GR.ofB (cc := cJ0_init_db425) (maxL := 5) (ret := none) (by decide) (big_at 36 13 rfl) (Nat.le_of_ble_eq_true rfl) ?_
  intro p e s m below meth cq S9 hr hlocks hin hPB hD hS hA ls hl
  obtain ⟨hx, hb, hml, hown, hts⟩ := id S9
  obtain ⟨⟨hP, hK⟩, hSK, hDZ⟩ := hPB
  have hl : lv_has ls 5 [(0, .ref x), (1, .ref sb), (2, .null)] := hl
  refine lv_aload_n hx hb dJ0_init_db425_0 rfl (lv_at hl 0 rfl) ?_
  refine W.objInit hx hb hown (hts _ (big_at 36 14 rfl)) (hts _ (big_at 0 11 rfl)) (hts _ (big_at 0 12 rfl)) rfl (by rw [hml]; exact hl.1) rfl dJ0_init_db425_1 (Nat.le_of_ble_eq_true rfl) (Nat.le_of_ble_eq_true rfl) ?_
  refine W.eq (g2 := F0 m 4 ls []) rfl ?_
  refine lv_aload_n hx hb dJ0_init_db425_4 rfl (lv_at hl 1 rfl) ?_
  refine m_ro (va_runU S9 (s_getVal l G cy kS vS sb vb n ml f mb) (bigU (owner := "java/lang/AbstractStringBuilder") 0 hts (big_at 36 16 rfl) (big_at 36 17 rfl) (big_at 36 18 rfl) (big_at 36 19 rfl) (big_at 4 18 rfl) (big_at 36 20 rfl) rfl rfl rfl (by decide +kernel) ⟨Nat.le_of_ble_eq_true rfl, Nat.le_of_ble_eq_true rfl⟩) ⟨fun b2 U g mk q => ⟨q.1, PJ.blind U g mk b2 q.2⟩, va_recv hK.1 hP (ci := 1) (q0 := 0) rfl rfl, fun U hU hW => ⟨rfl, PJ.at hSK hDZ hS (fun q h => fr_all (hD.sub [0, 1] (by decide) rfl) hS hA q h) hK (m_Ppart hP [0, 1] rfl) U hU hW⟩⟩ (g := F0 m _ ls _) rfl rfl hl.1 rfl (lv_room (Nat.le_of_ble_eq_true rfl)) dJ0_init_db425_5 ⟨Nat.le_of_ble_eq_true rfl, Nat.le_of_ble_eq_true rfl⟩) ?_
  refine lv_astore_n (lv' := [(3, .ref vb), (0, .ref x), (1, .ref sb), (2, .null)]) hx hb dJ0_init_db425_8 rfl hl (by decide) rfl (fun ls hl => ?_)
  refine lv_aload_n hx hb dJ0_init_db425_9 rfl (lv_at hl 2 rfl) ?_
  refine m_ro (va_runU S9 (s_len4 l G cy kS vS sb vb n ml f mb) (bigO (owner := "java/lang/AbstractStringBuilder") 0 hts (big_at 36 21 rfl) (big_at 36 22 rfl) (big_at 37 0 rfl) (big_at 37 1 rfl) (big_at 1 8 rfl) (big_at 37 2 rfl) rfl rfl (big_at 36 23 rfl) (big_at 37 5 rfl) (by decide +kernel) ⟨Nat.le_of_ble_eq_true rfl, Nat.le_of_ble_eq_true rfl⟩) ⟨fun b2 U g mk q => ⟨q.1, PJ.blind U g mk b2 q.2⟩, va_recv hK.1 hP (ci := 1) (q0 := 0) rfl rfl, fun U hU hW => ⟨rfl, PJ.at hSK hDZ hS (fun q h => fr_all (hD.sub [0, 1] (by decide) rfl) hS hA q h) hK (m_Ppart hP [0, 1] rfl) U hU hW⟩⟩ (g := F0 m _ ls _) rfl rfl hl.1 rfl (lv_room (Nat.le_of_ble_eq_true rfl)) dJ0_init_db425_10 ⟨Nat.le_of_ble_eq_true rfl, Nat.le_of_ble_eq_true rfl⟩) ?_
  refine lv_istore (lv' := [(4, .int (nI n)), (3, .ref vb), (0, .ref x), (1, .ref sb), (2, .null)]) hx hb dJ0_init_db425_13 hl (by decide) rfl (fun ls hl => ?_)
  refine lv_aload_n hx hb dJ0_init_db425_15 rfl (lv_at hl 3 rfl) ?_
  refine m_ro (va_runU S9 (s_sbLat l G cy kS vS sb vb n ml f mb) (bigU (owner := "java/lang/AbstractStringBuilder") 0 hts (big_at 37 6 rfl) (big_at 31 19 rfl) (big_at 31 20 rfl) (big_at 31 21 rfl) (big_at 4 18 rfl) (big_at 31 22 rfl) rfl rfl rfl (by decide +kernel) ⟨Nat.le_of_ble_eq_true rfl, Nat.le_of_ble_eq_true rfl⟩) ⟨fun b2 U g mk q => ⟨q.1, PJ.blind U g mk b2 q.2⟩, va_recv hK.1 hP (ci := 1) (q0 := 0) rfl rfl, fun U hU hW => ⟨rfl, PJ.at hSK hDZ hS (fun q h => fr_all (hD.sub [0, 1] (by decide) rfl) hS hA q h) hK (m_Ppart hP [0, 1] rfl) U hU hW⟩⟩ (g := F0 m _ ls _) rfl rfl hl.1 rfl (lv_room (Nat.le_of_ble_eq_true rfl)) dJ0_init_db425_16 ⟨Nat.le_of_ble_eq_true rfl, Nat.le_of_ble_eq_true rfl⟩) ?_
  refine lv_if_eq (tgt := 41) hx hb dJ0_init_db425_19 (by decide) (fun c9 => absurd c9 (by decide)) (fun _ => ?_)
  refine lv_aload_n hx hb dJ0_init_db425_22 rfl (lv_at hl 2 rfl) ?_
  refine lv_iconst (v := 0) hx hb dJ0_init_db425_23 (by decide) ?_
  refine va_putF (D := G) (ci := 0) (v := .int 0) (ty := .byte) (C := RJ0) (T := TJ0) (N := 4) hx hb hts hi_J0 tyJ0 tyJ0_ok nmJ0 hown hK.1 hP hD hS 2 rfl rfl 1 (by decide) (hts _ (big_at 34 11 rfl)) (fun _ h9 => h9) rfl hin rfl (by decide +kernel) rfl rfl (Nat.le_of_ble_eq_true rfl) dJ0_init_db425_24 (fun H locs hP hD hS => ?_)
  have hP : va_P G vwCl [(sb, .inr (1, [.ref vb, .int 0, .int ml, .int (nI n)])), (vb, .inl (cy 0, mb, .inl f)), (x, .inr (0, [.null, .int 0, .int 0, .int 0]))] _ := hP
  have hD : va_D (va_A ([(sb, .inr (1, [.ref vb, .int 0, .int ml, .int (nI n)])), (vb, .inl (cy 0, mb, .inl f)), (x, .inr (0, [.null, .int 0, .int 0, .int 0]))]) s.heap.size) [(sb, .inr (1, [.ref vb, .int 0, .int ml, .int (nI n)])), (vb, .inl (cy 0, mb, .inl f)), (x, .inr (0, [.null, .int 0, .int 0, .int 0]))] := hD
  refine lv_aload_n hx hb dJ0_init_db425_27 rfl (lv_at hl 2 rfl) ?_
  refine lv_aload_n hx hb dJ0_init_db425_28 rfl (lv_at hl 1 rfl) ?_
  refine lv_iconst (v := 0) hx hb dJ0_init_db425_29 (by decide) ?_
  refine lv_iload hx hb dJ0_init_db425_30 (lv_at hl 0 rfl) ?_
  have hP : va_P G vwCl [(sb, .inr (1, [.ref vb, .int 0, .int ml, .int (nI n)])), (x, .inr (0, [.null, .int 0, .int 0, .int 0])), (vb, .inl (cy 0, mb, .inl f))] _ := hP.sub [0, 2, 1] rfl
  have hD : va_D (va_A ([(sb, .inr (1, [.ref vb, .int 0, .int ml, .int (nI n)])), (vb, .inl (cy 0, mb, .inl f)), (x, .inr (0, [.null, .int 0, .int 0, .int 0]))]) s.heap.size) [(sb, .inr (1, [.ref vb, .int 0, .int ml, .int (nI n)])), (x, .inr (0, [.null, .int 0, .int 0, .int 0])), (vb, .inl (cy 0, mb, .inl f))] := hD.sub [0, 2, 1] (by decide) rfl
  have hP : va_P G vwCl ([(sb, .inr (1, [.ref vb, .int 0, .int ml, .int (nI n)])), (x, .inr (0, [.null, .int 0, .int 0, .int 0]))] ++ [(vb, .inl (cy 0, mb, .inl f))]) _ := hP
  have hD : va_D (va_A ([(sb, .inr (1, [.ref vb, .int 0, .int ml, .int (nI n)])), (vb, .inl (cy 0, mb, .inl f)), (x, .inr (0, [.null, .int 0, .int 0, .int 0]))]) s.heap.size) ([(sb, .inr (1, [.ref vb, .int 0, .int ml, .int (nI n)])), (x, .inr (0, [.null, .int 0, .int 0, .int 0]))] ++ [(vb, .inl (cy 0, mb, .inl f))]) := hD
  have hFw := free_of hD hS hA
  refine g_run (va_runS S9 ((s_cor l G cy kS vS vb f mb n hn9 hmb hf) _) (bigS 3 hts (big_at 37 7 rfl) (big_at 31 5 rfl) (big_at 37 9 rfl) (big_at 37 8 rfl) rfl rfl (by decide +kernel) ⟨Nat.le_of_ble_eq_true rfl, Nat.le_of_ble_eq_true rfl⟩) ⟨fun b2 U g mk q => ⟨q.1, q.2.1, PJ.blind U g mk b2 q.2.2.1, q.2.2.2⟩, fun U hU hW => ⟨rfl, (congrArg Array.size hU), PJ.at hSK hDZ hS hFw hK (strip_P hP) U hU hW, (strip_D hD).weaken (fun _ _ _ _ => trivial)⟩⟩ (g := F0 m _ ls _) rfl rfl hl.1 rfl (lv_room (Nat.le_of_ble_eq_true rfl)) dJ0_init_db425_32 ⟨Nat.le_of_ble_eq_true rfl, Nat.le_of_ble_eq_true rfl⟩) hP hD hS hA (fun u H locs hu hP hD hS => ?_)
  have hP : va_P G vwCl [(sb, .inr (1, [.ref vb, .int 0, .int ml, .int (nI n)])), (x, .inr (0, [.null, .int 0, .int 0, .int 0])), (vb, .inl (cy 0, mb, .inl f)), (u, .inl (cy 0, n, .inl (va_cpy f (fun _ => 0) 0 0 n)))] _ := hP
  have hD : va_D (va_A ([(sb, .inr (1, [.ref vb, .int 0, .int ml, .int (nI n)])), (vb, .inl (cy 0, mb, .inl f)), (x, .inr (0, [.null, .int 0, .int 0, .int 0]))]) s.heap.size) [(sb, .inr (1, [.ref vb, .int 0, .int ml, .int (nI n)])), (x, .inr (0, [.null, .int 0, .int 0, .int 0])), (vb, .inl (cy 0, mb, .inl f)), (u, .inl (cy 0, n, .inl (va_cpy f (fun _ => 0) 0 0 n)))] := hD
  refine va_putF (D := G) (ci := 0) (v := .ref u) (ty := .array .byte) (C := RJ0) (T := TJ0) (N := 4) hx hb hts hi_J0 tyJ0 tyJ0_ok nmJ0 hown hK.1 hP hD hS 1 rfl rfl 0 (by decide) (hts _ (big_at 34 5 rfl)) (fun _ h9 => h9) rfl hin rfl (by decide +kernel) rfl rfl (Nat.le_of_ble_eq_true rfl) dJ0_init_db425_35 (fun H locs hP hD hS => ?_)
  have hP : va_P G vwCl [(sb, .inr (1, [.ref vb, .int 0, .int ml, .int (nI n)])), (x, .inr (0, [.ref u, .int 0, .int 0, .int 0])), (vb, .inl (cy 0, mb, .inl f)), (u, .inl (cy 0, n, .inl (va_cpy f (fun _ => 0) 0 0 n)))] _ := hP
  have hD : va_D (va_A ([(sb, .inr (1, [.ref vb, .int 0, .int ml, .int (nI n)])), (vb, .inl (cy 0, mb, .inl f)), (x, .inr (0, [.null, .int 0, .int 0, .int 0]))]) s.heap.size) [(sb, .inr (1, [.ref vb, .int 0, .int ml, .int (nI n)])), (x, .inr (0, [.ref u, .int 0, .int 0, .int 0])), (vb, .inl (cy 0, mb, .inl f)), (u, .inl (cy 0, n, .inl (va_cpy f (fun _ => 0) 0 0 n)))] := hD
  refine lv_goto (tgt := 97) hx hb dJ0_init_db425_38 (by decide) ?_
  have hP : va_P G vwCl [(sb, .inr (1, [.ref vb, .int 0, .int ml, .int (nI n)])), (vb, .inl (cy 0, mb, .inl f)), (x, .inr (0, [.ref u, .int 0, .int 0, .int 0])), (u, .inl (cy 0, n, .inl (va_cpy f (fun _ => 0) 0 0 n)))] _ := hP.sub [0, 2, 1, 3] rfl
  have hD : va_D (va_A ([(sb, .inr (1, [.ref vb, .int 0, .int ml, .int (nI n)])), (vb, .inl (cy 0, mb, .inl f)), (x, .inr (0, [.null, .int 0, .int 0, .int 0]))]) s.heap.size) [(sb, .inr (1, [.ref vb, .int 0, .int ml, .int (nI n)])), (vb, .inl (cy 0, mb, .inl f)), (x, .inr (0, [.ref u, .int 0, .int 0, .int 0])), (u, .inl (cy 0, n, .inl (va_cpy f (fun _ => 0) 0 0 n)))] := hD.sub [0, 2, 1, 3] (by decide) rfl
  exact gr_vret hx hb hr hlocks u trivial rfl hP hD hS (Nat.le_of_ble_eq_true rfl) (Nat.le_of_ble_eq_true rfl) dJ0_init_db425_97
set_option maxRecDepth 100000 in
set_option maxHeartbeats 2000000 in
theorem s_init1 (l : Launch) (G : va_G) (cy : Nat → ClassId) (kS vS : Nat → Nat) (sb : Nat) (vb : Nat) (n : Nat) (ml : Int32) (f : Nat → Int32) (mb : Nat) (x : Nat) (hn9 : n < mb) (hmb : mb ≤ 34) (hf : ∀ i, i < mb → fits .byte (.int (f i)) = true) : GR (T9 := Nat) l yJ0_init_81219 { frames := 7, cells := 1, slots := 34, locals := 390 } 1 34 G (PJ G cy kS vS ([(sb, .inr (1, [.ref vb, .int 0, .int ml, .int (nI n)])), (vb, .inl (cy 0, mb, .inl f)), (x, .inr (0, [.null, .int 0, .int 0, .int 0]))])) [.ref x, .ref sb] ([(sb, .inr (1, [.ref vb, .int 0, .int ml, .int (nI n)])), (vb, .inl (cy 0, mb, .inl f)), (x, .inr (0, [.null, .int 0, .int 0, .int 0]))]) (fun _ => True) (fun u => [(sb, .inr (1, [.ref vb, .int 0, .int ml, .int (nI n)])), (vb, .inl (cy 0, mb, .inl f)), (x, .inr (0, [.ref u, .int 0, .int 0, .int 0])), (u, .inl (cy 0, n, .inl (va_cpy f (fun _ => 0) 0 0 n)))]) (fun _ => none) := by
  refine GR.ofB (cc := cJ0_init_81219) (maxL := 2) (ret := none) (by decide) (big_at 36 10 rfl) (Nat.le_of_ble_eq_true rfl) ?_
  intro p e s m below meth cq S9 hr hlocks hin hPB hD hS hA ls hl
  obtain ⟨hx, hb, hml, hown, hts⟩ := id S9
  obtain ⟨⟨hP, hK⟩, hSK, hDZ⟩ := hPB
  have hl : lv_has ls 2 [(0, .ref x), (1, .ref sb)] := hl
  refine lv_aload_n hx hb dJ0_init_81219_0 rfl (lv_at hl 0 rfl) ?_
  refine lv_aload_n hx hb dJ0_init_81219_1 rfl (lv_at hl 1 rfl) ?_
  refine lv_null hx hb dJ0_init_81219_2 ?_
  have hP : va_P G vwCl ([] ++ [(sb, .inr (1, [.ref vb, .int 0, .int ml, .int (nI n)])), (vb, .inl (cy 0, mb, .inl f)), (x, .inr (0, [.null, .int 0, .int 0, .int 0]))]) _ := hP
  have hD : va_D (va_A ([(sb, .inr (1, [.ref vb, .int 0, .int ml, .int (nI n)])), (vb, .inl (cy 0, mb, .inl f)), (x, .inr (0, [.null, .int 0, .int 0, .int 0]))]) s.heap.size) ([] ++ [(sb, .inr (1, [.ref vb, .int 0, .int ml, .int (nI n)])), (vb, .inl (cy 0, mb, .inl f)), (x, .inr (0, [.null, .int 0, .int 0, .int 0]))]) := hD
  have hFw := free_of hD hS hA
  refine g_run (va_runI S9 ((s_init2 l G cy kS vS sb vb n ml f mb x hn9 hmb hf) _) (bigI 2 hts (big_at 36 11 rfl) (big_at 32 16 rfl) (big_at 36 13 rfl) (big_at 36 12 rfl) rfl rfl rfl (by decide +kernel) ⟨Nat.le_of_ble_eq_true rfl, Nat.le_of_ble_eq_true rfl⟩) ⟨fun b2 U g mk q => ⟨q.1, q.2.1, PJ.blind U g mk b2 q.2.2.1, q.2.2.2⟩, fun U hU hW => ⟨rfl, (congrArg Array.size hU), PJ.at hSK hDZ hS hFw hK (strip_P hP) U hU hW, (strip_D hD).weaken (fun _ _ _ _ => trivial)⟩⟩ (g := F0 m _ ls _) rfl rfl hl.1 rfl (lv_room (Nat.le_of_ble_eq_true rfl)) dJ0_init_81219_3 ⟨Nat.le_of_ble_eq_true rfl, Nat.le_of_ble_eq_true rfl⟩) hP hD hS hA (fun u H locs hu hP hD hS => ?_)
  have hP : va_P G vwCl [(sb, .inr (1, [.ref vb, .int 0, .int ml, .int (nI n)])), (vb, .inl (cy 0, mb, .inl f)), (x, .inr (0, [.ref u, .int 0, .int 0, .int 0])), (u, .inl (cy 0, n, .inl (va_cpy f (fun _ => 0) 0 0 n)))] _ := hP
  have hD : va_D (va_A ([(sb, .inr (1, [.ref vb, .int 0, .int ml, .int (nI n)])), (vb, .inl (cy 0, mb, .inl f)), (x, .inr (0, [.null, .int 0, .int 0, .int 0]))]) s.heap.size) [(sb, .inr (1, [.ref vb, .int 0, .int ml, .int (nI n)])), (vb, .inl (cy 0, mb, .inl f)), (x, .inr (0, [.ref u, .int 0, .int 0, .int 0])), (u, .inl (cy 0, n, .inl (va_cpy f (fun _ => 0) 0 0 n)))] := hD
  exact gr_vret hx hb hr hlocks u trivial rfl hP hD hS (Nat.le_of_ble_eq_true rfl) (Nat.le_of_ble_eq_true rfl) dJ0_init_81219_6
set_option maxRecDepth 100000 in
set_option maxHeartbeats 2000000 in
theorem s_toStr (l : Launch) (G : va_G) (cy : Nat → ClassId) (kS vS : Nat → Nat) (sb : Nat) (vb : Nat) (ml : Int32) (lt : List Int32) (f : Nat → Int32) (mb : Nat) (hx9 : BTx mb lt f) (hn9 : lt.length < mb) : GR (T9 := Nat × Nat × (Nat → Int32)) l yJ4_toString_0e30d { frames := 8, cells := 2, slots := 38, locals := 450 } 2 38 G (PJ G cy kS vS ([(sb, .inr (1, [.ref vb, .int 0, .int ml, .int (nI lt.length)])), (vb, .inl (cy 0, mb, .inl f))])) [.ref sb] ([(sb, .inr (1, [.ref vb, .int 0, .int ml, .int (nI lt.length)])), (vb, .inl (cy 0, mb, .inl f))]) (fun u => ∀ i, i < lt.length → u.2.2 i = lt.getD i 0) (fun u => [(sb, .inr (1, [.ref vb, .int 0, .int ml, .int (nI lt.length)])), (vb, .inl (cy 0, mb, .inl f)), (u.1, .inr (0, [.ref u.2.1, .int 0, .int 0, .int 0])), (u.2.1, .inl (cy 0, lt.length, .inl u.2.2))]) (fun u => some (.ref u.1)) := by
  refine GR.ofB (cc := cJ4_toString_0e30d) (maxL := 1) (ret := (some (.object "java/lang/String"))) (by decide) (big_at 36 5 rfl) (Nat.le_of_ble_eq_true rfl) ?_
  intro p e s m below meth cq S9 hr hlocks hin hPB hD hS hA ls hl
  obtain ⟨hx, hb, hml, hown, hts⟩ := id S9
  obtain ⟨⟨hP, hK⟩, hSK, hDZ⟩ := hPB
  have hl : lv_has ls 1 [(0, .ref sb)] := hl
  have hm34 : mb ≤ 34 := by rcases hx9.1 with e | e <;> omega
  refine va_new (ci := 0) (fs := [.null, .int 0, .int 0, .int 0]) (C := RJ0) (T := TJ0) (N := 4) hx hb hts hi_J0 tyJ0 tyJ0_ok hown (hts _ (big_at 36 6 rfl)) (hts _ (big_at 36 7 rfl)) (hts _ (big_at 32 16 rfl)) hK.1 hP hD hS hA rfl (fun j hj => by rcases (show j = 0 ∨ j = 1 ∨ j = 2 ∨ j = 3 by omega) with rfl | rfl | rfl | rfl <;> rfl) (Nat.le_of_ble_eq_true rfl) (Nat.le_of_ble_eq_true rfl) dJ4_toString_0e30d_0 (fun x H hP hD hS => ?_)
  have hP : va_P G vwCl [(sb, .inr (1, [.ref vb, .int 0, .int ml, .int (nI lt.length)])), (vb, .inl (cy 0, mb, .inl f)), (x, .inr (0, [.null, .int 0, .int 0, .int 0]))] _ := hP
  have hD : va_D (va_A ([(sb, .inr (1, [.ref vb, .int 0, .int ml, .int (nI lt.length)])), (vb, .inl (cy 0, mb, .inl f))]) s.heap.size) [(sb, .inr (1, [.ref vb, .int 0, .int ml, .int (nI lt.length)])), (vb, .inl (cy 0, mb, .inl f)), (x, .inr (0, [.null, .int 0, .int 0, .int 0]))] := hD
  refine lv_dup hx hb dJ4_toString_0e30d_3 rfl ?_
  refine lv_aload_n hx hb dJ4_toString_0e30d_4 rfl (lv_at hl 0 rfl) ?_
  have hP : va_P G vwCl ([] ++ [(sb, .inr (1, [.ref vb, .int 0, .int ml, .int (nI lt.length)])), (vb, .inl (cy 0, mb, .inl f)), (x, .inr (0, [.null, .int 0, .int 0, .int 0]))]) _ := hP
  have hD : va_D (va_A ([(sb, .inr (1, [.ref vb, .int 0, .int ml, .int (nI lt.length)])), (vb, .inl (cy 0, mb, .inl f))]) s.heap.size) ([] ++ [(sb, .inr (1, [.ref vb, .int 0, .int ml, .int (nI lt.length)])), (vb, .inl (cy 0, mb, .inl f)), (x, .inr (0, [.null, .int 0, .int 0, .int 0]))]) := hD
  have hFw := free_of hD hS hA
  refine g_run (va_runI S9 ((s_init1 l G cy kS vS sb vb lt.length ml f mb x hn9 hm34 hx9.2.2.1) _) (bigI 1 hts (big_at 36 8 rfl) (big_at 32 16 rfl) (big_at 36 10 rfl) (big_at 36 9 rfl) rfl rfl rfl (by decide +kernel) ⟨Nat.le_of_ble_eq_true rfl, Nat.le_of_ble_eq_true rfl⟩) ⟨fun b2 U g mk q => ⟨q.1, q.2.1, PJ.blind U g mk b2 q.2.2.1, q.2.2.2⟩, fun U hU hW => ⟨rfl, (congrArg Array.size hU), PJ.at hSK hDZ hS hFw hK (strip_P hP) U hU hW, (strip_D hD).weaken (fun _ _ _ _ => trivial)⟩⟩ (g := F0 m _ ls _) rfl rfl hl.1 rfl (lv_room (Nat.le_of_ble_eq_true rfl)) dJ4_toString_0e30d_5 ⟨Nat.le_of_ble_eq_true rfl, Nat.le_of_ble_eq_true rfl⟩) hP hD hS hA (fun u H locs hu hP hD hS => ?_)
  have hP : va_P G vwCl [(sb, .inr (1, [.ref vb, .int 0, .int ml, .int (nI lt.length)])), (vb, .inl (cy 0, mb, .inl f)), (x, .inr (0, [.ref u, .int 0, .int 0, .int 0])), (u, .inl (cy 0, lt.length, .inl (va_cpy f (fun _ => 0) 0 0 lt.length)))] _ := hP
  have hD : va_D (va_A ([(sb, .inr (1, [.ref vb, .int 0, .int ml, .int (nI lt.length)])), (vb, .inl (cy 0, mb, .inl f))]) s.heap.size) [(sb, .inr (1, [.ref vb, .int 0, .int ml, .int (nI lt.length)])), (vb, .inl (cy 0, mb, .inl f)), (x, .inr (0, [.ref u, .int 0, .int 0, .int 0])), (u, .inl (cy 0, lt.length, .inl (va_cpy f (fun _ => 0) 0 0 lt.length)))] := hD
  have hC : ∀ i, i < lt.length → va_cpy f (fun _ => (0 : Int32)) 0 0 lt.length i = lt.getD i 0 := fun i hi => by unfold va_cpy; rw [if_pos (by omega), Nat.zero_add, Nat.sub_zero]; exact hx9.2.2.2 i hi
  exact gr_aret hx hb hr hlocks (Or.inl ⟨_, rfl⟩) (x, u, va_cpy f (fun _ => 0) 0 0 lt.length) hC rfl hP hD hS (Nat.le_of_ble_eq_true rfl) (Nat.le_of_ble_eq_true rfl) dJ4_toString_0e30d_8
