/-! append(String) -/
theorem sub_J0_coder_7d493 : ∀ w ∈ wsJ0_coder_7d493, w ∈ wsL_law := big_cons (big_at 34 9 rfl) (big_app (big_sub [(34, 10), (34, 11)] (by decide +kernel)) (big_row 62 rfl))
theorem z_coder (l : Launch) (G : va_G) (cy : Nat → ClassId) (kS vS : Nat → Nat) (bs : List Int32) (x y : Nat) (hb9 : bs.length < 1000) : RO l yJ0_coder_7d493 wsL_law { frames := 0, cells := 0, slots := 0, locals := 0 } (PTx G cy kS vS bs x y []) [.ref x] (some (.int 0)) := RO.up (s_J0_coder_7d493 l G cy kS vS bs x y hb9) (sub_J0_coder_7d493) (fun _ h => h)
theorem sub_J0_isLatin1_aae02 : ∀ w ∈ wsJ0_isLatin1_aae02, w ∈ wsL_law := big_cons (big_at 42 0 rfl) (big_app (big_sub [(34, 10), (34, 11)] (by decide +kernel)) (big_row 62 rfl))
theorem z_isLatin1 (l : Launch) (G : va_G) (cy : Nat → ClassId) (kS vS : Nat → Nat) (bs : List Int32) (x y : Nat) (hb9 : bs.length < 1000) : RO l yJ0_isLatin1_aae02 wsL_law { frames := 0, cells := 0, slots := 0, locals := 0 } (PTx G cy kS vS bs x y []) [.ref x] (some (.int 1)) := RO.up (s_J0_isLatin1_aae02 l G cy kS vS bs x y hb9) (sub_J0_isLatin1_aae02) (fun _ h => h)
theorem z_length (l : Launch) (G : va_G) (cy : Nat → ClassId) (kS vS : Nat → Nat) (bs : List Int32) (x y : Nat) (hb9 : bs.length < 1000) : RO l yJ0_length_8abf5 wsL_law { frames := 1, cells := 0, slots := 0, locals := 20 } (PTx G cy kS vS bs x y []) [.ref x] (some (.int (nI bs.length))) := RO.up (s_J0_length_8abf5 l G cy kS vS bs x y hb9) sub_J0_length_8abf5 (fun _ h => h)
theorem z_charAt (l : Launch) (G : va_G) (cy : Nat → ClassId) (kS vS : Nat → Nat) (bs : List Int32) (x y k : Nat) (hb9 : bs.length < 1000) (hk : k < bs.length) (hch : ChrOK (bs.getD k 0)) : RO l yJ0_charAt_5068e wsL_law { frames := 3, cells := 0, slots := 0, locals := 64 } (PTx G cy kS vS bs x y []) [.ref x, .int (nI k)] (some (.int (bs.getD k 0))) := RO.up (s_J0_charAt_5068e l G cy kS vS bs x y k hb9 hk hch) sub_J0_charAt_5068e (fun _ h => h)
set_option maxRecDepth 100000 in
set_option maxHeartbeats 2000000 in
theorem s_inflN (l : Launch) (G : va_G) (cy : Nat → ClassId) (kS vS : Nat → Nat) (sb : Nat) (vb : Nat) (n : Nat) (ml : Int32) (f : Nat → Int32) (mb : Nat) (bs : List Int32) (x : Nat) (y : Nat) (hb9 : bs.length < 1000) : RO l yJ5_inflateIfNeededFor_a7421 wsL_law { frames := 2, cells := 0, slots := 0, locals := 60 } (PTx G cy kS vS bs x y ([(sb, .inr (1, [.ref vb, .int 0, .int ml, .int (nI n)])), (vb, .inl (cy 0, mb, .inl f))])) [.ref sb, .ref x] (none) := by
  refine RO.ofB (cc := cJ5_inflateIfNeededFor_a7421) (maxL := 2) (ret := none) (by decide) (big_at 34 21 rfl) (Nat.le_of_ble_eq_true rfl) ?_
  intro p e s m below meth cq S9 hr hlocks hPB ls hl
  obtain ⟨hx, hb, hml, hown, hts⟩ := id S9
  obtain ⟨⟨⟨hP, hK⟩, hSK, hDZ⟩, hT⟩ := hPB
  have hS : va_S (va_A ([(sb, .inr (1, [.ref vb, .int 0, .int ml, .int (nI n)])), (vb, .inl (cy 0, mb, .inl f))]) s.heap.size) s.heap s.heap [] := va_S.rf
  have hl : lv_has ls 2 [(0, .ref sb), (1, .ref x)] := hl
  refine va_gets hx hb hSK.2.2.1 hS hown (hts _ (big_at 4 21 rfl)) (fun _ h9 => h9) dJ5_inflateIfNeededFor_a7421_0 ?_
  refine lv_if_eq (tgt := 21) hx hb dJ5_inflateIfNeededFor_a7421_3 (by decide) (fun c9 => absurd c9 (by decide)) (fun _ => ?_)
  refine lv_aload_n hx hb dJ5_inflateIfNeededFor_a7421_6 rfl (lv_at hl 0 rfl) ?_
  refine va_get (D := G) (ci := 1) (v := .int 0) (C := RJ4) (T := TJ4) (N := 4) hx hb hts hi_J4 hown hK.1 hP 0 rfl rfl 1 (by decide) (hts _ (big_at 5 0 rfl)) (fun _ h9 => h9) rfl dJ5_inflateIfNeededFor_a7421_7 ?_
  refine lv_aload_n hx hb dJ5_inflateIfNeededFor_a7421_10 rfl (lv_at hl 1 rfl) ?_
  refine m_ro (va_runV S9 (z_coder l G cy kS vS bs x y hb9) (bigV 0 hts (big_at 34 22 rfl) (big_at 32 16 rfl) (big_at 34 9 rfl) (big_at 34 7 rfl) (big_at 34 8 rfl) rfl rfl (by decide +kernel) ⟨Nat.le_of_ble_eq_true rfl, Nat.le_of_ble_eq_true rfl⟩) ⟨fun b2 U g mk q => ⟨q.1, PTx.blind U g mk b2 q.2⟩, hT.recv, fun U hU hW => ⟨rfl, PTx.at (strI.kept9 hT hS (fr_nil hS (fun q h => Or.inr h))) hSK hDZ hS (fr_nil hS (fun q h => Or.inr h)) hK (m_Ppart hP [] rfl) U hU hW⟩⟩ (g := F0 m _ ls _) rfl rfl hl.1 rfl (lv_room (Nat.le_of_ble_eq_true rfl)) dJ5_inflateIfNeededFor_a7421_11 ⟨Nat.le_of_ble_eq_true rfl, Nat.le_of_ble_eq_true rfl⟩) ?_
  refine lv_icmp_eq (tgt := 21) hx hb dJ5_inflateIfNeededFor_a7421_14 (by decide) (fun _ => ?_) (fun c9 => absurd (by decide) c9)
  exact W.vret hx hb hr (fun t ht _ => ⟨rfl, ht⟩) (fun q h => by cases h) dJ5_inflateIfNeededFor_a7421_21 hlocks
set_option maxRecDepth 100000 in
set_option maxHeartbeats 2000000 in
theorem s_getBytes (l : Launch) (G : va_G) (cy : Nat → ClassId) (kS vS : Nat → Nat) (vb : Nat) (n : Nat) (f : Nat → Int32) (mb : Nat) (bs : List Int32) (x : Nat) (y : Nat) (hb9 : bs.length < 1000) (hfb : FB bs) (hn : n + bs.length ≤ mb) (hmb : mb ≤ 34) : GR (T9 := Unit) l yJ0_getBytes_840e7 { frames := 2, cells := 0, slots := 0, locals := 80 } 0 0 G (PTx G cy kS vS bs x y ([(vb, .inl (cy 0, mb, .inl f))])) [.ref x, .ref vb, .int (nI n), .int 0] ([(vb, .inl (cy 0, mb, .inl f))]) (fun _ => True) (fun _ => [(vb, .inl (cy 0, mb, .inl (va_cpy (fun j => bs.getD j 0) f 0 n bs.length)))]) (fun _ => none) := by
  refine GR.ofB (cc := cJ0_getBytes_840e7) (maxL := 4) (ret := none) (by decide) (big_at 35 23 rfl) (Nat.le_of_ble_eq_true rfl) ?_
  intro p e s m below meth cq S9 hr hlocks hin hPB hD hS hA ls hl
  obtain ⟨hx, hb, hml, hown, hts⟩ := id S9
  obtain ⟨⟨⟨hP, hK⟩, hSK, hDZ⟩, hT⟩ := hPB
  have hl : lv_has ls 4 [(0, .ref x), (1, .ref vb), (2, .int (nI n)), (3, .int 0)] := hl
  refine lv_aload_n hx hb dJ0_getBytes_840e7_0 rfl (lv_at hl 0 rfl) ?_
  refine m_ro (va_runV S9 (z_coder l G cy kS vS bs x y hb9) (bigV 0 hts (big_at 34 6 rfl) (big_at 32 16 rfl) (big_at 34 9 rfl) (big_at 34 7 rfl) (big_at 34 8 rfl) rfl rfl (by decide +kernel) ⟨Nat.le_of_ble_eq_true rfl, Nat.le_of_ble_eq_true rfl⟩) ⟨fun b2 U g mk q => ⟨q.1, PTx.blind U g mk b2 q.2⟩, hT.recv, fun U hU hW => ⟨rfl, PTx.at (strI.kept9 hT hS (fr_nil hS hA)) hSK hDZ hS (fr_nil hS hA) hK (m_Ppart hP [] rfl) U hU hW⟩⟩ (g := F0 m _ ls _) rfl rfl hl.1 rfl (lv_room (Nat.le_of_ble_eq_true rfl)) dJ0_getBytes_840e7_1 ⟨Nat.le_of_ble_eq_true rfl, Nat.le_of_ble_eq_true rfl⟩) ?_
  refine lv_iload_n hx hb dJ0_getBytes_840e7_4 rfl (lv_at hl 3 rfl) ?_
  refine lv_icmp_ne (tgt := 28) hx hb dJ0_getBytes_840e7_5 (by decide) (fun c9 => absurd (by decide) c9) (fun _ => ?_)
  refine lv_aload_n hx hb dJ0_getBytes_840e7_8 rfl (lv_at hl 0 rfl) ?_
  refine vk_getf hx hb (hT).2.2.1 hS hown (hts _ (big_at 34 5 rfl)) (fun _ h9 => h9) dJ0_getBytes_840e7_9 ?_
  refine lv_iconst (v := 0) hx hb dJ0_getBytes_840e7_12 (by decide) ?_
  refine lv_aload_n hx hb dJ0_getBytes_840e7_13 rfl (lv_at hl 1 rfl) ?_
  refine lv_iload_n hx hb dJ0_getBytes_840e7_14 rfl (lv_at hl 2 rfl) ?_
  refine lv_iload_n hx hb dJ0_getBytes_840e7_15 rfl (lv_at hl 3 rfl) ?_
  refine lv_ishl hx hb dJ0_getBytes_840e7_16 ?_
  refine lv_t0 (show ((nI n) <<< ((0 : Int32) &&& 31)) = nI n from shl0 (by omega)) ?_
  refine lv_aload_n hx hb dJ0_getBytes_840e7_17 rfl (lv_at hl 0 rfl) ?_
  refine vk_getf hx hb (hT).2.2.1 hS hown (hts _ (big_at 34 5 rfl)) (fun _ h9 => h9) dJ0_getBytes_840e7_18 ?_
  refine va_tlen hx hb hT.2.2.2 hS (v := nI bs.length) rfl dJ0_getBytes_840e7_21 ?_
  refine vk_copyt hx hb (hml.trans hl.1.symm) hown (hts _ (big_at 36 0 rfl)) (hts _ (big_at 31 15 rfl)) (hts _ (big_at 31 16 rfl)) (hts _ (big_at 31 17 rfl)) hK.1 hP hD hS hT.2.2.2 0 0 rfl rfl (sp := nI 0) (dp := nI n) (n := nI bs.length) (fun z => absurd ((nI_ltI (b := 0) (by omega) (by omega)).mp z) (Nat.not_lt_zero _)) (fun z => absurd ((nI_ltI (b := 0) (by omega) (by omega)).mp z) (Nat.not_lt_zero _)) (fun z => absurd ((nI_ltI (b := 0) (by omega) (by omega)).mp z) (Nat.not_lt_zero _)) (by rw [nI_clamp (show 0 < 2 ^ 31 by omega), nI_clamp (show bs.length < 2 ^ 31 by omega)]; omega) (by rw [nI_clamp (show n < 2 ^ 31 by omega), nI_clamp (show bs.length < 2 ^ 31 by omega)]; omega) (by rw [nI_clamp (show 0 < 2 ^ 31 by omega), nI_clamp (show bs.length < 2 ^ 31 by omega)]; exact (fun i hi => by rw [Nat.zero_add]; exact getD_fit hfb hi)) (Nat.le_of_ble_eq_true rfl) (by decide) dJ0_getBytes_840e7_22 (fun H locs hP hD hS => ?_)
  rw [nI_clamp (show 0 < 2 ^ 31 by omega), nI_clamp (show n < 2 ^ 31 by omega), nI_clamp (show bs.length < 2 ^ 31 by omega)] at hP hD
  have hP : va_P G vwCl [(vb, .inl (cy 0, mb, .inl (va_cpy (fun j => bs.getD j 0) f 0 n bs.length)))] _ := hP
  have hD : va_D (va_A ([(vb, .inl (cy 0, mb, .inl f))]) s.heap.size) [(vb, .inl (cy 0, mb, .inl (va_cpy (fun j => bs.getD j 0) f 0 n bs.length)))] := hD
  refine lv_goto (tgt := 43) hx hb dJ0_getBytes_840e7_25 (by decide) ?_
  exact gr_vret hx hb hr hlocks () trivial rfl hP hD hS (Nat.le_of_ble_eq_true rfl) (Nat.le_of_ble_eq_true rfl) dJ0_getBytes_840e7_43
set_option maxRecDepth 100000 in
set_option maxHeartbeats 2000000 in
theorem s_putStr (l : Launch) (G : va_G) (cy : Nat → ClassId) (kS vS : Nat → Nat) (sb : Nat) (vb : Nat) (n : Nat) (ml : Int32) (f : Nat → Int32) (mb : Nat) (bs : List Int32) (x : Nat) (y : Nat) (hb9 : bs.length < 1000) (hfb : FB bs) (hn : n + bs.length ≤ mb) (hmb : mb ≤ 34) : GR (T9 := Unit) l yJ5_putStringAt_47b60 { frames := 4, cells := 0, slots := 0, locals := 180 } 0 0 G (PTx G cy kS vS bs x y ([(sb, .inr (1, [.ref vb, .int 0, .int ml, .int (nI n)])), (vb, .inl (cy 0, mb, .inl f))])) [.ref sb, .int (nI n), .ref x] ([(sb, .inr (1, [.ref vb, .int 0, .int ml, .int (nI n)])), (vb, .inl (cy 0, mb, .inl f))]) (fun _ => True) (fun _ => [(sb, .inr (1, [.ref vb, .int 0, .int ml, .int (nI n)])), (vb, .inl (cy 0, mb, .inl (va_cpy (fun j => bs.getD j 0) f 0 n bs.length)))]) (fun _ => none) := by
  refine GR.ofB (cc := cJ5_putStringAt_47b60) (maxL := 3) (ret := none) (by decide) (big_at 34 16 rfl) (Nat.le_of_ble_eq_true rfl) ?_
  intro p e s m below meth cq S9 hr hlocks hin hPB hD hS hA ls hl
  obtain ⟨hx, hb, hml, hown, hts⟩ := id S9
  obtain ⟨⟨⟨hP, hK⟩, hSK, hDZ⟩, hT⟩ := hPB
  have hl : lv_has ls 3 [(0, .ref sb), (1, .int (nI n)), (2, .ref x)] := hl
  refine lv_aload_n hx hb dJ5_putStringAt_47b60_0 rfl (lv_at hl 0 rfl) ?_
  refine lv_aload_n hx hb dJ5_putStringAt_47b60_1 rfl (lv_at hl 2 rfl) ?_
  refine m_ro (va_runU S9 (s_inflN l G cy kS vS sb vb n ml f mb bs x y hb9) (bigU (owner := "java/lang/AbstractStringBuilder") 1 hts (big_at 34 17 rfl) (big_at 34 18 rfl) (big_at 34 19 rfl) (big_at 34 20 rfl) (big_at 4 18 rfl) (big_at 34 21 rfl) rfl rfl rfl (by decide +kernel) ⟨Nat.le_of_ble_eq_true rfl, Nat.le_of_ble_eq_true rfl⟩) ⟨fun b2 U g mk q => ⟨q.1, PTx.blind U g mk b2 q.2⟩, va_recv hK.1 hP (ci := 1) (q0 := 0) rfl rfl, fun U hU hW => ⟨rfl, PTx.at (strI.kept9 hT hS (fr_all hD hS hA)) hSK hDZ hS (fr_all hD hS hA) hK hP U hU hW⟩⟩ (g := F0 m _ ls _) rfl rfl hl.1 rfl (lv_room (Nat.le_of_ble_eq_true rfl)) dJ5_putStringAt_47b60_2 ⟨Nat.le_of_ble_eq_true rfl, Nat.le_of_ble_eq_true rfl⟩) ?_
  refine lv_aload_n hx hb dJ5_putStringAt_47b60_5 rfl (lv_at hl 2 rfl) ?_
  refine lv_aload_n hx hb dJ5_putStringAt_47b60_6 rfl (lv_at hl 0 rfl) ?_
  refine va_get (D := G) (ci := 1) (v := .ref vb) (C := RJ4) (T := TJ4) (N := 4) hx hb hts hi_J4 hown hK.1 hP 0 rfl rfl 0 (by decide) (hts _ (big_at 4 23 rfl)) (fun _ h9 => h9) rfl dJ5_putStringAt_47b60_7 ?_
  refine lv_iload_n hx hb dJ5_putStringAt_47b60_10 rfl (lv_at hl 1 rfl) ?_
  refine lv_aload_n hx hb dJ5_putStringAt_47b60_11 rfl (lv_at hl 0 rfl) ?_
  refine va_get (D := G) (ci := 1) (v := .int 0) (C := RJ4) (T := TJ4) (N := 4) hx hb hts hi_J4 hown hK.1 hP 0 rfl rfl 1 (by decide) (hts _ (big_at 5 0 rfl)) (fun _ h9 => h9) rfl dJ5_putStringAt_47b60_12 ?_
  have hP : va_P G vwCl ([(sb, .inr (1, [.ref vb, .int 0, .int ml, .int (nI n)]))] ++ [(vb, .inl (cy 0, mb, .inl f))]) _ := hP
  have hD : va_D (va_A ([(sb, .inr (1, [.ref vb, .int 0, .int ml, .int (nI n)])), (vb, .inl (cy 0, mb, .inl f))]) s.heap.size) ([(sb, .inr (1, [.ref vb, .int 0, .int ml, .int (nI n)]))] ++ [(vb, .inl (cy 0, mb, .inl f))]) := hD
  have hFw := free_of hD hS hA
  refine g_run (va_runV S9 ((s_getBytes l G cy kS vS vb n f mb bs x y hb9 hfb hn hmb) _) (bigV 3 hts (big_at 35 20 rfl) (big_at 32 16 rfl) (big_at 35 23 rfl) (big_at 35 21 rfl) (big_at 35 22 rfl) rfl rfl (by decide +kernel) ⟨Nat.le_of_ble_eq_true rfl, Nat.le_of_ble_eq_true rfl⟩) ⟨fun b2 U g mk q => ⟨q.1, q.2.1, PTx.blind U g mk b2 q.2.2.1, q.2.2.2⟩, (strI.kept9 hT hS (fun q h => h)).recv, fun U hU hW => ⟨rfl, (congrArg Array.size hU), PTx.at (strI.kept9 hT hS hFw) hSK hDZ hS hFw hK (strip_P hP) U hU hW, (strip_D hD).weaken (fun _ _ _ _ => trivial)⟩⟩ (g := F0 m _ ls _) rfl rfl hl.1 rfl (lv_room (Nat.le_of_ble_eq_true rfl)) dJ5_putStringAt_47b60_15 ⟨Nat.le_of_ble_eq_true rfl, Nat.le_of_ble_eq_true rfl⟩) hP hD hS hA (fun u H locs hu hP hD hS => ?_)
  have hP : va_P G vwCl [(sb, .inr (1, [.ref vb, .int 0, .int ml, .int (nI n)])), (vb, .inl (cy 0, mb, .inl (va_cpy (fun j => bs.getD j 0) f 0 n bs.length)))] _ := hP
  have hD : va_D (va_A ([(sb, .inr (1, [.ref vb, .int 0, .int ml, .int (nI n)])), (vb, .inl (cy 0, mb, .inl f))]) s.heap.size) [(sb, .inr (1, [.ref vb, .int 0, .int ml, .int (nI n)])), (vb, .inl (cy 0, mb, .inl (va_cpy (fun j => bs.getD j 0) f 0 n bs.length)))] := hD
  exact gr_vret hx hb hr hlocks () trivial rfl hP hD hS (Nat.le_of_ble_eq_true rfl) (Nat.le_of_ble_eq_true rfl) dJ5_putStringAt_47b60_18
set_option maxRecDepth 100000 in
set_option maxHeartbeats 2000000 in
theorem s_appS5 (l : Launch) (G : va_G) (cy : Nat → ClassId) (kS vS : Nat → Nat) (sb : Nat) (vb : Nat) (ml : Int32) (lt : List Int32) (f : Nat → Int32) (mb : Nat) (bs : List Int32) (x : Nat) (y : Nat) (hb9 : bs.length < 1000) (hfb : FB bs) (hx9 : BTx mb lt f) (hq : lt.length + bs.length ≤ 34) : GR (T9 := Nat × Nat × (Nat → Int32)) l yJ5_append_cf1ce { frames := 6, cells := 1, slots := 34, locals := 300 } 1 34 G (PTx G cy kS vS bs x y ([(sb, .inr (1, [.ref vb, .int 0, .int ml, .int (nI lt.length)])), (vb, .inl (cy 0, mb, .inl f))])) [.ref sb, .ref x] ([(sb, .inr (1, [.ref vb, .int 0, .int ml, .int (nI lt.length)])), (vb, .inl (cy 0, mb, .inl f))]) (fun u => BTx u.2.1 (lt ++ bs) u.2.2 ∧ (mb = 16 → lt.length + bs.length ≤ 16 → u.2.1 = 16)) (fun u => sbW cy sb u.1 u.2.1 ml (lt ++ bs).length u.2.2) (fun _ => some (.ref sb)) := by
  refine GR.ofB (cc := cJ5_append_cf1ce) (maxL := 3) (ret := (some (.object "java/lang/AbstractStringBuilder"))) (by decide) (big_at 33 16 rfl) (Nat.le_of_ble_eq_true rfl) ?_
  intro p e s m below meth cq S9 hr hlocks hin hPB hD hS hA ls hl
  obtain ⟨hx, hb, hml, hown, hts⟩ := id S9
  obtain ⟨⟨⟨hP, hK⟩, hSK, hDZ⟩, hT⟩ := hPB
  have hl : lv_has ls 3 [(0, .ref sb), (1, .ref x)] := hl
  refine lv_aload_n hx hb dJ5_append_cf1ce_0 rfl (lv_at hl 1 rfl) ?_
  refine lv_ifnonnull (tgt := 9) hx hb dJ5_append_cf1ce_1 (by decide) ?_
  refine lv_aload_n hx hb dJ5_append_cf1ce_9 rfl (lv_at hl 1 rfl) ?_
  refine m_ro (va_runV S9 (z_length l G cy kS vS bs x y hb9) (bigV 0 hts (big_at 34 1 rfl) (big_at 32 16 rfl) (big_at 34 4 rfl) (big_at 34 2 rfl) (big_at 34 3 rfl) rfl rfl (by decide +kernel) ⟨Nat.le_of_ble_eq_true rfl, Nat.le_of_ble_eq_true rfl⟩) ⟨fun b2 U g mk q => ⟨q.1, PTx.blind U g mk b2 q.2⟩, hT.recv, fun U hU hW => ⟨rfl, PTx.at (strI.kept9 hT hS (fr_nil hS hA)) hSK hDZ hS (fr_nil hS hA) hK (m_Ppart hP [] rfl) U hU hW⟩⟩ (g := F0 m _ ls _) rfl rfl hl.1 rfl (lv_room (Nat.le_of_ble_eq_true rfl)) dJ5_append_cf1ce_10 ⟨Nat.le_of_ble_eq_true rfl, Nat.le_of_ble_eq_true rfl⟩) ?_
  refine lv_istore_n (lv' := [(2, .int (nI bs.length)), (0, .ref sb), (1, .ref x)]) hx hb dJ5_append_cf1ce_13 rfl hl (by decide) rfl (fun ls hl => ?_)
  refine lv_aload_n hx hb dJ5_append_cf1ce_14 rfl (lv_at hl 1 rfl) ?_
  refine lv_aload_n hx hb dJ5_append_cf1ce_15 rfl (lv_at hl 1 rfl) ?_
  refine va_get (D := G) (ci := 1) (v := .int (nI lt.length)) (C := RJ4) (T := TJ4) (N := 4) hx hb hts hi_J4 hown hK.1 hP 0 rfl rfl 3 (by decide) (hts _ (big_at 30 0 rfl)) (fun _ h9 => h9) rfl dJ5_append_cf1ce_16 ?_
  refine lv_iload_n hx hb dJ5_append_cf1ce_19 rfl (lv_at hl 0 rfl) ?_
  refine lv_iadd hx hb dJ5_append_cf1ce_20 ?_
  refine lv_t0 (show ((nI lt.length) + (nI bs.length)) = nI (lt.length + bs.length) from nI_add _ _) ?_
  by_cases hgr : lt.length + bs.length ≤ mb
  · have hm34 : mb ≤ 34 := by rcases hx9.1 with e | e <;> omega
    have hB2 := BTx.cpy hx9 hfb hgr
    refine m_ro (va_runU S9 (s_ens0 l G cy kS vS sb vb lt.length ml f mb (lt.length + bs.length) hm34 hgr) (bigU (owner := "java/lang/AbstractStringBuilder") 1 hts (big_at 30 5 rfl) (big_at 30 6 rfl) (big_at 30 7 rfl) (big_at 30 8 rfl) (big_at 4 18 rfl) (big_at 30 9 rfl) rfl rfl rfl (by decide +kernel) ⟨Nat.le_of_ble_eq_true rfl, Nat.le_of_ble_eq_true rfl⟩) ⟨fun b2 U g mk q => ⟨q.1, PJ.blind U g mk b2 q.2⟩, va_recv hK.1 hP (ci := 1) (q0 := 0) rfl rfl, fun U hU hW => ⟨rfl, PJ.at hSK hDZ hS (fr_all hD hS hA) hK hP U hU hW⟩⟩ (g := F0 m _ ls _) rfl rfl hl.1 rfl (lv_room (Nat.le_of_ble_eq_true rfl)) dJ5_append_cf1ce_21 ⟨Nat.le_of_ble_eq_true rfl, Nat.le_of_ble_eq_true rfl⟩) ?_
    refine lv_aload_n hx hb dJ5_append_cf1ce_24 rfl (lv_at hl 1 rfl) ?_
    refine lv_aload_n hx hb dJ5_append_cf1ce_25 rfl (lv_at hl 1 rfl) ?_
    refine va_get (D := G) (ci := 1) (v := .int (nI lt.length)) (C := RJ4) (T := TJ4) (N := 4) hx hb hts hi_J4 hown hK.1 hP 0 rfl rfl 3 (by decide) (hts _ (big_at 30 0 rfl)) (fun _ h9 => h9) rfl dJ5_append_cf1ce_26 ?_
    refine lv_aload_n hx hb dJ5_append_cf1ce_29 rfl (lv_at hl 2 rfl) ?_
    have hP : va_P G vwCl ([] ++ [(sb, .inr (1, [.ref vb, .int 0, .int ml, .int (nI lt.length)])), (vb, .inl (cy 0, mb, .inl f))]) _ := hP
    have hD : va_D (va_A ([(sb, .inr (1, [.ref vb, .int 0, .int ml, .int (nI lt.length)])), (vb, .inl (cy 0, mb, .inl f))]) s.heap.size) ([] ++ [(sb, .inr (1, [.ref vb, .int 0, .int ml, .int (nI lt.length)])), (vb, .inl (cy 0, mb, .inl f))]) := hD
    have hFw := free_of hD hS hA
    refine g_run (va_runU S9 ((s_putStr l G cy kS vS sb vb lt.length ml f mb bs x y hb9 hfb hgr hm34) _) (bigU (owner := "java/lang/AbstractStringBuilder") 2 hts (big_at 34 12 rfl) (big_at 34 13 rfl) (big_at 34 14 rfl) (big_at 34 15 rfl) (big_at 4 18 rfl) (big_at 34 16 rfl) rfl rfl rfl (by decide +kernel) ⟨Nat.le_of_ble_eq_true rfl, Nat.le_of_ble_eq_true rfl⟩) ⟨fun b2 U g mk q => ⟨q.1, q.2.1, PTx.blind U g mk b2 q.2.2.1, q.2.2.2⟩, va_recv hK.1 hP (ci := 1) (q0 := 0) rfl rfl, fun U hU hW => ⟨rfl, (congrArg Array.size hU), PTx.at (strI.kept9 hT hS hFw) hSK hDZ hS hFw hK (strip_P hP) U hU hW, (strip_D hD).weaken (fun _ _ _ _ => trivial)⟩⟩ (g := F0 m _ ls _) rfl rfl hl.1 rfl (lv_room (Nat.le_of_ble_eq_true rfl)) dJ5_append_cf1ce_30 ⟨Nat.le_of_ble_eq_true rfl, Nat.le_of_ble_eq_true rfl⟩) hP hD hS hA (fun u2 H locs hu2 hP hD hS => ?_)
    have hP : va_P G vwCl [(sb, .inr (1, [.ref vb, .int 0, .int ml, .int (nI lt.length)])), (vb, .inl (cy 0, mb, .inl (va_cpy (fun j => bs.getD j 0) f 0 lt.length bs.length)))] _ := hP
    have hD : va_D (va_A ([(sb, .inr (1, [.ref vb, .int 0, .int ml, .int (nI lt.length)])), (vb, .inl (cy 0, mb, .inl f))]) s.heap.size) [(sb, .inr (1, [.ref vb, .int 0, .int ml, .int (nI lt.length)])), (vb, .inl (cy 0, mb, .inl (va_cpy (fun j => bs.getD j 0) f 0 lt.length bs.length)))] := hD
    refine lv_aload_n hx hb dJ5_append_cf1ce_33 rfl (lv_at hl 1 rfl) ?_
    refine lv_dup hx hb dJ5_append_cf1ce_34 rfl ?_
    refine va_get (D := G) (ci := 1) (v := .int (nI lt.length)) (C := RJ4) (T := TJ4) (N := 4) hx hb hts hi_J4 hown hK.1 hP 0 rfl rfl 3 (by decide) (hts _ (big_at 30 0 rfl)) (fun _ h9 => h9) rfl dJ5_append_cf1ce_35 ?_
    refine lv_iload_n hx hb dJ5_append_cf1ce_38 rfl (lv_at hl 0 rfl) ?_
    refine lv_iadd hx hb dJ5_append_cf1ce_39 ?_
    refine lv_t0 (show ((nI lt.length) + (nI bs.length)) = nI (lt ++ bs).length from by rw [nI_add, List.length_append]) ?_
    refine va_put (D := G) (ci := 1) (v := .int (nI (lt ++ bs).length)) (ty := .int) (C := RJ4) (T := TJ4) (N := 4) hx hb hts hi_J4 tyJ4 tyJ4_ok nmJ4 hown hK.1 hP hD hS 0 rfl rfl 3 (by decide) (hts _ (big_at 30 0 rfl)) (fun _ h9 => h9) rfl (by decide +kernel) rfl rfl (Nat.le_of_ble_eq_true rfl) dJ5_append_cf1ce_40 (fun H locs hP hD hS => ?_)
    have hP : va_P G vwCl [(sb, .inr (1, [.ref vb, .int 0, .int ml, .int (nI (lt ++ bs).length)])), (vb, .inl (cy 0, mb, .inl (va_cpy (fun j => bs.getD j 0) f 0 lt.length bs.length)))] _ := hP
    have hD : va_D (va_A ([(sb, .inr (1, [.ref vb, .int 0, .int ml, .int (nI lt.length)])), (vb, .inl (cy 0, mb, .inl f))]) s.heap.size) [(sb, .inr (1, [.ref vb, .int 0, .int ml, .int (nI (lt ++ bs).length)])), (vb, .inl (cy 0, mb, .inl (va_cpy (fun j => bs.getD j 0) f 0 lt.length bs.length)))] := hD
    refine lv_aload_n hx hb dJ5_append_cf1ce_43 rfl (lv_at hl 1 rfl) ?_
    exact gr_aret hx hb hr hlocks (Or.inl ⟨_, rfl⟩) (vb, mb, (va_cpy (fun j => bs.getD j 0) f 0 lt.length bs.length)) ⟨hB2, fun e _ => e⟩ rfl hP hD hS (Nat.le_of_ble_eq_true rfl) (Nat.le_of_ble_eq_true rfl) dJ5_append_cf1ce_44
  · have em : mb = 16 := by rcases hx9.1 with e | e; exact e; omega
    subst em
    have hB1 := BTx.grow hx9
    have hB2 := BTx.cpy hB1 hfb hq
    have hP : va_P G vwCl [(sb, .inr (1, [.ref vb, .int 0, .int ml, .int (nI lt.length)])), (vb, .inl (cy 0, 16, .inl f))] _ := hP
    have hD : va_D (va_A ([(sb, .inr (1, [.ref vb, .int 0, .int ml, .int (nI lt.length)])), (vb, .inl (cy 0, 16, .inl f))]) s.heap.size) [(sb, .inr (1, [.ref vb, .int 0, .int ml, .int (nI lt.length)])), (vb, .inl (cy 0, 16, .inl f))] := hD
    have hP : va_P G vwCl ([] ++ [(sb, .inr (1, [.ref vb, .int 0, .int ml, .int (nI lt.length)])), (vb, .inl (cy 0, 16, .inl f))]) _ := hP
    have hD : va_D (va_A ([(sb, .inr (1, [.ref vb, .int 0, .int ml, .int (nI lt.length)])), (vb, .inl (cy 0, 16, .inl f))]) s.heap.size) ([] ++ [(sb, .inr (1, [.ref vb, .int 0, .int ml, .int (nI lt.length)])), (vb, .inl (cy 0, 16, .inl f))]) := hD
    have hFw := free_of hD hS hA
    refine g_run (va_runU S9 ((s_ens1 l G cy kS vS sb vb lt.length ml f (lt.length + bs.length) (by omega) hq hx9.2.2.1) _) (bigU (owner := "java/lang/AbstractStringBuilder") 1 hts (big_at 30 5 rfl) (big_at 30 6 rfl) (big_at 30 7 rfl) (big_at 30 8 rfl) (big_at 4 18 rfl) (big_at 30 9 rfl) rfl rfl rfl (by decide +kernel) ⟨Nat.le_of_ble_eq_true rfl, Nat.le_of_ble_eq_true rfl⟩) ⟨fun b2 U g mk q => ⟨q.1, q.2.1, PJ.blind U g mk b2 q.2.2.1, q.2.2.2⟩, va_recv hK.1 hP (ci := 1) (q0 := 0) rfl rfl, fun U hU hW => ⟨rfl, (congrArg Array.size hU), PJ.at hSK hDZ hS hFw hK (strip_P hP) U hU hW, (strip_D hD).weaken (fun _ _ _ _ => trivial)⟩⟩ (g := F0 m _ ls _) rfl rfl hl.1 rfl (lv_room (Nat.le_of_ble_eq_true rfl)) dJ5_append_cf1ce_21 ⟨Nat.le_of_ble_eq_true rfl, Nat.le_of_ble_eq_true rfl⟩) hP hD hS hA (fun u H locs hu hP hD hS => ?_)
    have hP : va_P G vwCl [(sb, .inr (1, [.ref u, .int 0, .int ml, .int (nI lt.length)])), (u, .inl (cy 0, 34, .inl (va_cpy f (fun _ => 0) 0 0 16)))] _ := hP
    have hD : va_D (va_A ([(sb, .inr (1, [.ref vb, .int 0, .int ml, .int (nI lt.length)])), (vb, .inl (cy 0, 16, .inl f))]) s.heap.size) [(sb, .inr (1, [.ref u, .int 0, .int ml, .int (nI lt.length)])), (u, .inl (cy 0, 34, .inl (va_cpy f (fun _ => 0) 0 0 16)))] := hD
    refine lv_aload_n hx hb dJ5_append_cf1ce_24 rfl (lv_at hl 1 rfl) ?_
    refine lv_aload_n hx hb dJ5_append_cf1ce_25 rfl (lv_at hl 1 rfl) ?_
    refine va_get (D := G) (ci := 1) (v := .int (nI lt.length)) (C := RJ4) (T := TJ4) (N := 4) hx hb hts hi_J4 hown hK.1 hP 0 rfl rfl 3 (by decide) (hts _ (big_at 30 0 rfl)) (fun _ h9 => h9) rfl dJ5_append_cf1ce_26 ?_
    refine lv_aload_n hx hb dJ5_append_cf1ce_29 rfl (lv_at hl 2 rfl) ?_
    have hP : va_P G vwCl ([] ++ [(sb, .inr (1, [.ref u, .int 0, .int ml, .int (nI lt.length)])), (u, .inl (cy 0, 34, .inl (va_cpy f (fun _ => 0) 0 0 16)))]) _ := hP
    have hD : va_D (va_A ([(sb, .inr (1, [.ref vb, .int 0, .int ml, .int (nI lt.length)])), (vb, .inl (cy 0, 16, .inl f))]) s.heap.size) ([] ++ [(sb, .inr (1, [.ref u, .int 0, .int ml, .int (nI lt.length)])), (u, .inl (cy 0, 34, .inl (va_cpy f (fun _ => 0) 0 0 16)))]) := hD
    have hFw := free_of hD hS hA
    refine g_run (va_runU S9 ((s_putStr l G cy kS vS sb u lt.length ml (va_cpy f (fun _ => 0) 0 0 16) 34 bs x y hb9 hfb hq (by decide)) _) (bigU (owner := "java/lang/AbstractStringBuilder") 2 hts (big_at 34 12 rfl) (big_at 34 13 rfl) (big_at 34 14 rfl) (big_at 34 15 rfl) (big_at 4 18 rfl) (big_at 34 16 rfl) rfl rfl rfl (by decide +kernel) ⟨Nat.le_of_ble_eq_true rfl, Nat.le_of_ble_eq_true rfl⟩) ⟨fun b2 U g mk q => ⟨q.1, q.2.1, PTx.blind U g mk b2 q.2.2.1, q.2.2.2⟩, va_recv hK.1 hP (ci := 1) (q0 := 0) rfl rfl, fun U hU hW => ⟨rfl, (congrArg Array.size hU), PTx.at (strI.kept9 hT hS hFw) hSK hDZ hS hFw hK (strip_P hP) U hU hW, (strip_D hD).weaken (fun _ _ _ _ => trivial)⟩⟩ (g := F0 m _ ls _) rfl rfl hl.1 rfl (lv_room (Nat.le_of_ble_eq_true rfl)) dJ5_append_cf1ce_30 ⟨Nat.le_of_ble_eq_true rfl, Nat.le_of_ble_eq_true rfl⟩) hP hD hS hA (fun u2 H locs hu2 hP hD hS => ?_)
    have hP : va_P G vwCl [(sb, .inr (1, [.ref u, .int 0, .int ml, .int (nI lt.length)])), (u, .inl (cy 0, 34, .inl (va_cpy (fun j => bs.getD j 0) (va_cpy f (fun _ => 0) 0 0 16) 0 lt.length bs.length)))] _ := hP
    have hD : va_D (va_A ([(sb, .inr (1, [.ref vb, .int 0, .int ml, .int (nI lt.length)])), (vb, .inl (cy 0, 16, .inl f))]) s.heap.size) [(sb, .inr (1, [.ref u, .int 0, .int ml, .int (nI lt.length)])), (u, .inl (cy 0, 34, .inl (va_cpy (fun j => bs.getD j 0) (va_cpy f (fun _ => 0) 0 0 16) 0 lt.length bs.length)))] := hD
    refine lv_aload_n hx hb dJ5_append_cf1ce_33 rfl (lv_at hl 1 rfl) ?_
    refine lv_dup hx hb dJ5_append_cf1ce_34 rfl ?_
    refine va_get (D := G) (ci := 1) (v := .int (nI lt.length)) (C := RJ4) (T := TJ4) (N := 4) hx hb hts hi_J4 hown hK.1 hP 0 rfl rfl 3 (by decide) (hts _ (big_at 30 0 rfl)) (fun _ h9 => h9) rfl dJ5_append_cf1ce_35 ?_
    refine lv_iload_n hx hb dJ5_append_cf1ce_38 rfl (lv_at hl 0 rfl) ?_
    refine lv_iadd hx hb dJ5_append_cf1ce_39 ?_
    refine lv_t0 (show ((nI lt.length) + (nI bs.length)) = nI (lt ++ bs).length from by rw [nI_add, List.length_append]) ?_
    refine va_put (D := G) (ci := 1) (v := .int (nI (lt ++ bs).length)) (ty := .int) (C := RJ4) (T := TJ4) (N := 4) hx hb hts hi_J4 tyJ4 tyJ4_ok nmJ4 hown hK.1 hP hD hS 0 rfl rfl 3 (by decide) (hts _ (big_at 30 0 rfl)) (fun _ h9 => h9) rfl (by decide +kernel) rfl rfl (Nat.le_of_ble_eq_true rfl) dJ5_append_cf1ce_40 (fun H locs hP hD hS => ?_)
    have hP : va_P G vwCl [(sb, .inr (1, [.ref u, .int 0, .int ml, .int (nI (lt ++ bs).length)])), (u, .inl (cy 0, 34, .inl (va_cpy (fun j => bs.getD j 0) (va_cpy f (fun _ => 0) 0 0 16) 0 lt.length bs.length)))] _ := hP
    have hD : va_D (va_A ([(sb, .inr (1, [.ref vb, .int 0, .int ml, .int (nI lt.length)])), (vb, .inl (cy 0, 16, .inl f))]) s.heap.size) [(sb, .inr (1, [.ref u, .int 0, .int ml, .int (nI (lt ++ bs).length)])), (u, .inl (cy 0, 34, .inl (va_cpy (fun j => bs.getD j 0) (va_cpy f (fun _ => 0) 0 0 16) 0 lt.length bs.length)))] := hD
    refine lv_aload_n hx hb dJ5_append_cf1ce_43 rfl (lv_at hl 1 rfl) ?_
    exact gr_aret hx hb hr hlocks (Or.inl ⟨_, rfl⟩) (u, 34, (va_cpy (fun j => bs.getD j 0) (va_cpy f (fun _ => 0) 0 0 16) 0 lt.length bs.length)) ⟨hB2, fun _ h => absurd h hgr⟩ rfl hP hD hS (Nat.le_of_ble_eq_true rfl) (Nat.le_of_ble_eq_true rfl) dJ5_append_cf1ce_44
set_option maxRecDepth 100000 in
set_option maxHeartbeats 2000000 in
theorem s_appS (l : Launch) (G : va_G) (cy : Nat → ClassId) (kS vS : Nat → Nat) (sb : Nat) (vb : Nat) (ml : Int32) (lt : List Int32) (f : Nat → Int32) (mb : Nat) (bs : List Int32) (x : Nat) (y : Nat) (hb9 : bs.length < 1000) (hfb : FB bs) (hx9 : BTx mb lt f) (hq : lt.length + bs.length ≤ 34) : GR (T9 := Nat × Nat × (Nat → Int32)) l yJ4_append_15ec4 { frames := 7, cells := 1, slots := 34, locals := 360 } 1 34 G (PTx G cy kS vS bs x y ([(sb, .inr (1, [.ref vb, .int 0, .int ml, .int (nI lt.length)])), (vb, .inl (cy 0, mb, .inl f))])) [.ref sb, .ref x] ([(sb, .inr (1, [.ref vb, .int 0, .int ml, .int (nI lt.length)])), (vb, .inl (cy 0, mb, .inl f))]) (fun u => BTx u.2.1 (lt ++ bs) u.2.2 ∧ (mb = 16 → lt.length + bs.length ≤ 16 → u.2.1 = 16)) (fun u => sbW cy sb u.1 u.2.1 ml (lt ++ bs).length u.2.2) (fun _ => some (.ref sb)) := by
  refine GR.ofB (cc := cJ4_append_15ec4) (maxL := 2) (ret := (some (.object "java/lang/StringBuilder"))) (by decide) (big_at 33 12 rfl) (Nat.le_of_ble_eq_true rfl) ?_
  intro p e s m below meth cq S9 hr hlocks hin hPB hD hS hA ls hl
  obtain ⟨hx, hb, hml, hown, hts⟩ := id S9
  obtain ⟨⟨⟨hP, hK⟩, hSK, hDZ⟩, hT⟩ := hPB
  have hl : lv_has ls 2 [(0, .ref sb), (1, .ref x)] := hl
  refine lv_aload_n hx hb dJ4_append_15ec4_0 rfl (lv_at hl 0 rfl) ?_
  refine lv_aload_n hx hb dJ4_append_15ec4_1 rfl (lv_at hl 1 rfl) ?_
  have hP : va_P G vwCl ([] ++ [(sb, .inr (1, [.ref vb, .int 0, .int ml, .int (nI lt.length)])), (vb, .inl (cy 0, mb, .inl f))]) _ := hP
  have hD : va_D (va_A ([(sb, .inr (1, [.ref vb, .int 0, .int ml, .int (nI lt.length)])), (vb, .inl (cy 0, mb, .inl f))]) s.heap.size) ([] ++ [(sb, .inr (1, [.ref vb, .int 0, .int ml, .int (nI lt.length)])), (vb, .inl (cy 0, mb, .inl f))]) := hD
  have hFw := free_of hD hS hA
  refine g_run (va_runSU (hK.1.1 1 _ rfl).2 S9 ((s_appS5 l G cy kS vS sb vb ml lt f mb bs x y hb9 hfb hx9 hq) _) (bigSU 1 hts (big_at 33 13 rfl) (big_at 33 14 rfl) (big_at 29 21 rfl) (big_at 33 15 rfl) (big_at 4 18 rfl) (big_at 33 16 rfl) rfl rfl (by decide +kernel) ⟨Nat.le_of_ble_eq_true rfl, Nat.le_of_ble_eq_true rfl⟩) ⟨fun b2 U g mk q => ⟨q.1, q.2.1, PTx.blind U g mk b2 q.2.2.1, q.2.2.2⟩, va_recv hK.1 hP (ci := 1) (q0 := 0) rfl rfl, fun U hU hW => ⟨rfl, (congrArg Array.size hU), PTx.at (strI.kept9 hT hS hFw) hSK hDZ hS hFw hK (strip_P hP) U hU hW, (strip_D hD).weaken (fun _ _ _ _ => trivial)⟩⟩ (g := F0 m _ ls _) rfl rfl hl.1 rfl (lv_room (Nat.le_of_ble_eq_true rfl)) dJ4_append_15ec4_2 ⟨Nat.le_of_ble_eq_true rfl, Nat.le_of_ble_eq_true rfl⟩) hP hD hS hA (fun u H locs hu hP hD hS => ?_)
  refine lv_pop hx hb dJ4_append_15ec4_5 rfl ?_
  refine lv_aload_n hx hb dJ4_append_15ec4_6 rfl (lv_at hl 0 rfl) ?_
  exact gr_aret hx hb hr hlocks (Or.inl ⟨_, rfl⟩) u hu rfl hP hD hS (Nat.le_of_ble_eq_true rfl) (Nat.le_of_ble_eq_true rfl) dJ4_append_15ec4_7
