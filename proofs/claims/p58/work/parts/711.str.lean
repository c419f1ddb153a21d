/-! strings that are read -/
set_option maxRecDepth 100000 in
set_option maxHeartbeats 1000000 in
theorem s_J0_isLatin1_aae02 (l : Launch) (G : va_G) (cy : Nat → ClassId) (kS vS : Nat → Nat) (bs : List Int32) (x y : Nat) (hb9 : bs.length < 1000) : RO l yJ0_isLatin1_aae02 wsJ0_isLatin1_aae02 { frames := 0, cells := 0, slots := 0, locals := 0 } (PTx G cy kS vS bs x y []) [.ref x] (some (.int 1)) := by
  refine RO.ofW (cc := cJ0_isLatin1_aae02) (maxL := 1) (ret := (some .boolean)) (by decide) rfl (Nat.le_of_ble_eq_true rfl) ?_
  intro p e s m below meth cq S9 hr hlocks hPB ls hl
  obtain ⟨hxq, hb, hml, hown, hts⟩ := id S9
  obtain ⟨⟨⟨hP0, hK⟩, hSK, hDZ⟩, hT⟩ := hPB
  have hl : lv_has ls 1 [(0, .ref x)] := hl
  have hS : va_S (va_A [] s.heap.size) s.heap s.heap [] := va_S.rf
  have hP : va_P G vwCl [] s.heap := fun k q h => by simp at h
  refine va_gets hxq hb hSK.2.2.1 hS hown (hts (.fieldLink RJ0 38 "java/lang/String" "COMPACT_STRINGS" "Z") (by decide +kernel)) (fun _ h9 => h9) dJ0_isLatin1_aae02_0 ?_
  refine lv_if_eq (tgt := 17) hxq hb dJ0_isLatin1_aae02_3 (by decide) (fun c_1 => ?_) (fun c_1 => ?_)
  · exact absurd c_1 (by decide)
  · refine lv_aload_n hxq hb dJ0_isLatin1_aae02_6 rfl (lv_at hl 0 rfl) ?_
    refine vk_getf hxq hb hT.2.1 hS hown (hts (.fieldLink RJ0 15 "java/lang/String" "coder" "B") (by decide +kernel)) (fun _ h9 => h9) dJ0_isLatin1_aae02_7 ?_
    refine lv_if_ne (tgt := 17) hxq hb dJ0_isLatin1_aae02_10 (by decide) (fun c_2 => ?_) (fun c_2 => ?_)
    · exact absurd c_2 (by decide)
    · refine lv_iconst (v := 1) hxq hb dJ0_isLatin1_aae02_13 (by decide) ?_
      refine lv_goto (tgt := 18) hxq hb dJ0_isLatin1_aae02_14 (by decide) ?_
      exact ro_zret hxq hb hr hlocks (by first | rfl | (split <;> rfl)) rfl dJ0_isLatin1_aae02_18
set_option maxRecDepth 100000 in
set_option maxHeartbeats 1000000 in
theorem s_J0_coder_7d493 (l : Launch) (G : va_G) (cy : Nat → ClassId) (kS vS : Nat → Nat) (bs : List Int32) (x y : Nat) (hb9 : bs.length < 1000) : RO l yJ0_coder_7d493 wsJ0_coder_7d493 { frames := 0, cells := 0, slots := 0, locals := 0 } (PTx G cy kS vS bs x y []) [.ref x] (some (.int 0)) := by
  refine RO.ofW (cc := cJ0_coder_7d493) (maxL := 1) (ret := (some .byte)) (by decide) rfl (Nat.le_of_ble_eq_true rfl) ?_
  intro p e s m below meth cq S9 hr hlocks hPB ls hl
  obtain ⟨hxq, hb, hml, hown, hts⟩ := id S9
  obtain ⟨⟨⟨hP0, hK⟩, hSK, hDZ⟩, hT⟩ := hPB
  have hl : lv_has ls 1 [(0, .ref x)] := hl
  have hS : va_S (va_A [] s.heap.size) s.heap s.heap [] := va_S.rf
  have hP : va_P G vwCl [] s.heap := fun k q h => by simp at h
  refine va_gets hxq hb hSK.2.2.1 hS hown (hts (.fieldLink RJ0 38 "java/lang/String" "COMPACT_STRINGS" "Z") (by decide +kernel)) (fun _ h9 => h9) dJ0_coder_7d493_0 ?_
  refine lv_if_eq (tgt := 13) hxq hb dJ0_coder_7d493_3 (by decide) (fun c_1 => ?_) (fun c_1 => ?_)
  · exact absurd c_1 (by decide)
  · refine lv_aload_n hxq hb dJ0_coder_7d493_6 rfl (lv_at hl 0 rfl) ?_
    refine vk_getf hxq hb hT.2.1 hS hown (hts (.fieldLink RJ0 15 "java/lang/String" "coder" "B") (by decide +kernel)) (fun _ h9 => h9) dJ0_coder_7d493_7 ?_
    refine lv_goto (tgt := 14) hxq hb dJ0_coder_7d493_10 (by decide) ?_
    exact ro_zret hxq hb hr hlocks rfl rfl dJ0_coder_7d493_14
set_option maxRecDepth 100000 in
set_option maxHeartbeats 1000000 in
theorem s_J0_length_8abf5 (l : Launch) (G : va_G) (cy : Nat → ClassId) (kS vS : Nat → Nat) (bs : List Int32) (x y : Nat) (hb9 : bs.length < 1000) : RO l yJ0_length_8abf5 wsJ0_length_8abf5 { frames := 1, cells := 0, slots := 0, locals := 20 } (PTx G cy kS vS bs x y []) [.ref x] (some (.int (nI (bs.length)))) := by
  refine RO.ofW (cc := cJ0_length_8abf5) (maxL := 1) (ret := (some .int)) (by decide) rfl (Nat.le_of_ble_eq_true rfl) ?_
  intro p e s m below meth cq S9 hr hlocks hPB ls hl
  obtain ⟨hxq, hb, hml, hown, hts⟩ := id S9
  obtain ⟨⟨⟨hP0, hK⟩, hSK, hDZ⟩, hT⟩ := hPB
  have hl : lv_has ls 1 [(0, .ref x)] := hl
  have hS : va_S (va_A [] s.heap.size) s.heap s.heap [] := va_S.rf
  have hP : va_P G vwCl [] s.heap := fun k q h => by simp at h
  refine lv_aload_n hxq hb dJ0_length_8abf5_0 rfl (lv_at hl 0 rfl) ?_
  refine vk_getf hxq hb hT.2.2.1 hS hown (hts (.fieldLink RJ0 9 "java/lang/String" "value" "[B") (by decide +kernel)) (fun _ h9 => h9) dJ0_length_8abf5_1 ?_
  refine va_tlen hxq hb hT.2.2.2 hS (v := nI (bs.length)) rfl dJ0_length_8abf5_4 ?_
  refine lv_aload_n hxq hb dJ0_length_8abf5_5 rfl (lv_at hl 0 rfl) ?_
  refine c_roVi S9 (s_J0_coder_7d493 l G cy kS vS bs x y hb9) (cwV 0 hts gJ0_length_8abf5_J0_coder_7d493 rfl rfl rfl (by decide +kernel) ⟨Nat.le_of_ble_eq_true rfl, Nat.le_of_ble_eq_true rfl⟩) PTx.blind hT.recv (PTx.at hT hSK hDZ hS (fun q h => h) hK hP) rfl hl.1 rfl (Nat.le_of_ble_eq_true rfl) ⟨Nat.zero_le _, Nat.zero_le _⟩ dJ0_length_8abf5_6 ?_
  refine lv_ishr hxq hb dJ0_length_8abf5_9 ?_
  refine lv_t0 (show nI (bs.length) >>> (0 : Int32) = nI (bs.length) from (pk_shrN (Nat.lt_of_lt_of_le (hb9) (by decide)) 0 0 (by decide)).trans (by rw [Nat.pow_zero, Nat.div_one])) ?_
  exact ro_iret hxq hb hr hlocks rfl dJ0_length_8abf5_10
set_option maxRecDepth 100000 in
set_option maxHeartbeats 1000000 in
theorem s_J0_checkIndex_df160 (l : Launch) (G : va_G) (cy : Nat → ClassId) (kS vS : Nat → Nat) (k n : Nat) (hk9 : k < n) (hn9 : n < 100000) : RO l yJ0_checkIndex_df160 wsJ0_checkIndex_df160 { frames := 1, cells := 0, slots := 0, locals := 22 } (PJ G cy kS vS []) [.int (nI k), .int (nI n)] (none) := by
  refine RO.ofW (cc := cJ0_checkIndex_df160) (maxL := 2) (ret := none) (by decide) rfl (Nat.le_of_ble_eq_true rfl) ?_
  intro p e s m below meth cq S9 hr hlocks hPB ls hl
  obtain ⟨hxq, hb, hml, hown, hts⟩ := id S9
  obtain ⟨⟨hP0, hK⟩, hSK, hDZ⟩ := hPB
  have hl : lv_has ls 2 [(0, .int (nI k)), (1, .int (nI n))] := hl
  have hS : va_S (va_A [] s.heap.size) s.heap s.heap [] := va_S.rf
  have hP : va_P G vwCl [] s.heap := fun k q h => by simp at h
  refine lv_iload_n hxq hb dJ0_checkIndex_df160_0 rfl (lv_at hl 0 rfl) ?_
  refine lv_iload_n hxq hb dJ0_checkIndex_df160_1 rfl (lv_at hl 1 rfl) ?_
  rcases hSK.2.2.2 with hz9 | ⟨t9, hz9⟩
  · refine va_gets hxq hb hz9 hS hown (hts (.fieldLink RJ0 1053 "jdk/internal/util/Preconditions" "SIOOBE_FORMATTER" "Ljava/util/function/BiFunction;") (by decide +kernel)) (fun _ h9 => h9) dJ0_checkIndex_df160_2 ?_
    refine c_roSi S9 (c_J3_checkIndex_n l G cy k n hk9 hn9) (va_cwS 3 hts gJ0_checkIndex_df160_J3_checkIndex_8e157 rfl rfl rfl (by decide +kernel) ⟨Nat.le_of_ble_eq_true rfl, Nat.le_of_ble_eq_true rfl⟩) PB.blind (PB.at hK (m_Ppart hP [] rfl)) rfl hl.1 rfl (Nat.le_of_ble_eq_true rfl) ⟨Nat.zero_le _, Nat.zero_le _⟩ dJ0_checkIndex_df160_5 ?_
    refine lv_pop hxq hb dJ0_checkIndex_df160_8 rfl ?_
    exact W.vret hxq hb hr (fun t ht _ => ⟨rfl, ht⟩) (fun q h => by cases h) dJ0_checkIndex_df160_9 hlocks
  · refine va_gets hxq hb hz9 hS hown (hts (.fieldLink RJ0 1053 "jdk/internal/util/Preconditions" "SIOOBE_FORMATTER" "Ljava/util/function/BiFunction;") (by decide +kernel)) (fun _ h9 => h9) dJ0_checkIndex_df160_2 ?_
    refine c_roSi S9 (c_J3_checkIndex_r l G cy t9 k n hk9 hn9) (va_cwS 3 hts gJ0_checkIndex_df160_J3_checkIndex_8e157 rfl rfl rfl (by decide +kernel) ⟨Nat.le_of_ble_eq_true rfl, Nat.le_of_ble_eq_true rfl⟩) PB.blind (PB.at hK (m_Ppart hP [] rfl)) rfl hl.1 rfl (Nat.le_of_ble_eq_true rfl) ⟨Nat.zero_le _, Nat.zero_le _⟩ dJ0_checkIndex_df160_5 ?_
    refine lv_pop hxq hb dJ0_checkIndex_df160_8 rfl ?_
    exact W.vret hxq hb hr (fun t ht _ => ⟨rfl, ht⟩) (fun q h => by cases h) dJ0_checkIndex_df160_9 hlocks
set_option maxRecDepth 100000 in
set_option maxHeartbeats 1000000 in
theorem s_J1_charAt_3b067 (l : Launch) (G : va_G) (cy : Nat → ClassId) (kS vS : Nat → Nat) (bs : List Int32) (x y k : Nat) (hb9 : bs.length < 1000) (hk : k < bs.length) (hch : ChrOK (bs.getD k 0)) : RO l yJ1_charAt_3b067 wsJ1_charAt_3b067 { frames := 2, cells := 0, slots := 0, locals := 43 } (PTx G cy kS vS bs x y []) [.ref y, .int (nI k)] (some (.int (bs.getD k 0))) := by
  refine RO.ofW (cc := cJ1_charAt_3b067) (maxL := 2) (ret := (some .char)) (by decide) rfl (Nat.le_of_ble_eq_true rfl) ?_
  intro p e s m below meth cq S9 hr hlocks hPB ls hl
  obtain ⟨hxq, hb, hml, hown, hts⟩ := id S9
  obtain ⟨⟨⟨hP0, hK⟩, hSK, hDZ⟩, hT⟩ := hPB
  have hl : lv_has ls 2 [(0, .ref y), (1, .int (nI k))] := hl
  have hS : va_S (va_A [] s.heap.size) s.heap s.heap [] := va_S.rf
  have hP : va_P G vwCl [] s.heap := fun k q h => by simp at h
  have hl9 : bs.length < 1000 := hb9
  have hk8 : k < bs.length := hk
  have hc9 := hch
  refine lv_iload_n hxq hb dJ1_charAt_3b067_0 rfl (lv_at hl 1 rfl) ?_
  refine lv_aload_n hxq hb dJ1_charAt_3b067_1 rfl (lv_at hl 0 rfl) ?_
  refine va_tlen hxq hb hT.2.2.2 hS (v := nI (bs.length)) rfl dJ1_charAt_3b067_2 ?_
  refine c_roSv S9 (s_J0_checkIndex_df160 l G cy kS vS k (bs.length) hk8 (by omega)) (va_cwS 2 hts gJ1_charAt_3b067_J0_checkIndex_df160 rfl rfl rfl (by decide +kernel) ⟨Nat.le_of_ble_eq_true rfl, Nat.le_of_ble_eq_true rfl⟩) PJ.blind (PJ.at hSK hDZ hS (fun q h => h) hK hP) rfl hl.1 rfl (Nat.le_of_ble_eq_true rfl) ⟨Nat.zero_le _, Nat.zero_le _⟩ dJ1_charAt_3b067_3 ?_
  refine lv_aload_n hxq hb dJ1_charAt_3b067_6 rfl (lv_at hl 0 rfl) ?_
  refine lv_iload_n hxq hb dJ1_charAt_3b067_7 rfl (lv_at hl 1 rfl) ?_
  refine va_tb hxq hb hT.2.2.2 hS (i := nI k) (v := .int (bs.getD k 0)) (vp_in_nI (show k < bs.length from by assumption) (Nat.lt_of_lt_of_le (hb9) (by decide))) (by rw [nI_clamp (by omega)]) dJ1_charAt_3b067_8 ?_
  refine lv_sipush (v := 255) hxq hb dJ1_charAt_3b067_9 (by decide) ?_
  refine lv_iand hxq hb dJ1_charAt_3b067_12 ?_
  refine lv_i2c (v := bs.getD k 0) hxq hb dJ1_charAt_3b067_13 hc9.1 ?_
  exact ro_zret hxq hb hr hlocks (congrArg Value.int hc9.2) rfl dJ1_charAt_3b067_14
set_option maxRecDepth 100000 in
set_option maxHeartbeats 1000000 in
theorem s_J0_charAt_5068e (l : Launch) (G : va_G) (cy : Nat → ClassId) (kS vS : Nat → Nat) (bs : List Int32) (x y k : Nat) (hb9 : bs.length < 1000) (hk : k < bs.length) (hch : ChrOK (bs.getD k 0)) : RO l yJ0_charAt_5068e wsJ0_charAt_5068e { frames := 3, cells := 0, slots := 0, locals := 64 } (PTx G cy kS vS bs x y []) [.ref x, .int (nI k)] (some (.int (bs.getD k 0))) := by
  refine RO.ofW (cc := cJ0_charAt_5068e) (maxL := 2) (ret := (some .char)) (by decide) rfl (Nat.le_of_ble_eq_true rfl) ?_
  intro p e s m below meth cq S9 hr hlocks hPB ls hl
  obtain ⟨hxq, hb, hml, hown, hts⟩ := id S9
  obtain ⟨⟨⟨hP0, hK⟩, hSK, hDZ⟩, hT⟩ := hPB
  have hl : lv_has ls 2 [(0, .ref x), (1, .int (nI k))] := hl
  have hS : va_S (va_A [] s.heap.size) s.heap s.heap [] := va_S.rf
  have hP : va_P G vwCl [] s.heap := fun k q h => by simp at h
  have hl9 : bs.length < 1000 := hb9
  have hk8 : k < bs.length := hk
  have hc9 := hch
  refine lv_aload_n hxq hb dJ0_charAt_5068e_0 rfl (lv_at hl 0 rfl) ?_
  refine c_roVi S9 (s_J0_isLatin1_aae02 l G cy kS vS bs x y hb9) (cwV 0 hts gJ0_charAt_5068e_J0_isLatin1_aae02 rfl rfl rfl (by decide +kernel) ⟨Nat.le_of_ble_eq_true rfl, Nat.le_of_ble_eq_true rfl⟩) PTx.blind hT.recv (PTx.at hT hSK hDZ hS (fun q h => h) hK hP) rfl hl.1 rfl (Nat.le_of_ble_eq_true rfl) ⟨Nat.zero_le _, Nat.zero_le _⟩ dJ0_charAt_5068e_1 ?_
  refine lv_if_eq (tgt := 16) hxq hb dJ0_charAt_5068e_4 (by decide) (fun c_1 => ?_) (fun c_1 => ?_)
  · exact absurd c_1 (by decide)
  · refine lv_aload_n hxq hb dJ0_charAt_5068e_7 rfl (lv_at hl 0 rfl) ?_
    refine vk_getf hxq hb hT.2.2.1 hS hown (hts (.fieldLink RJ0 9 "java/lang/String" "value" "[B") (by decide +kernel)) (fun _ h9 => h9) dJ0_charAt_5068e_8 ?_
    refine lv_iload_n hxq hb dJ0_charAt_5068e_11 rfl (lv_at hl 1 rfl) ?_
    refine c_roSi S9 (s_J1_charAt_3b067 l G cy kS vS bs x y k hb9 hk hch) (va_cwS 2 hts gJ0_charAt_5068e_J1_charAt_3b067 rfl rfl rfl (by decide +kernel) ⟨Nat.le_of_ble_eq_true rfl, Nat.le_of_ble_eq_true rfl⟩) PTx.blind (PTx.at hT hSK hDZ hS (fun q h => h) hK hP) rfl hl.1 rfl (Nat.le_of_ble_eq_true rfl) ⟨Nat.zero_le _, Nat.zero_le _⟩ dJ0_charAt_5068e_12 ?_
    exact ro_zret hxq hb hr hlocks (congrArg Value.int hc9.2) rfl dJ0_charAt_5068e_15
theorem sub_J0_length_8abf5 : ∀ w ∈ wsJ0_length_8abf5, w ∈ wsL_law := big_cons (big_at 34 4 rfl) (big_app (big_sub [(34, 5), (34, 6), (34, 7), (34, 8), (32, 16), (34, 9), (34, 10), (34, 11)] (by decide +kernel)) (big_row 62 rfl))
theorem sub_J0_charAt_5068e : ∀ w ∈ wsJ0_charAt_5068e, w ∈ wsL_law := big_cons (big_at 41 20 rfl) (big_app (big_app (big_sub [(34, 5), (41, 21), (41, 22), (41, 23), (32, 16), (42, 0), (34, 10), (34, 11), (42, 1), (42, 2), (35, 6), (42, 3), (42, 4), (40, 12), (40, 13), (32, 18), (40, 14), (40, 15), (32, 21), (40, 16), (42, 5), (42, 6), (5, 3), (42, 7)] (by decide +kernel)) (big_sub [(40, 8), (40, 9), (40, 10), (32, 11), (32, 12), (32, 13), (40, 11), (37, 23), (38, 0), (38, 1), (32, 7), (33, 7), (33, 8)] (by decide +kernel))) (big_row 62 rfl))
