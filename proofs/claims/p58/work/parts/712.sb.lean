/-! builders that grow -/
theorem fr_nil {A : Nat → Prop} {H0 H : Heap} {locs : List Loc} (hS : va_S A H0 H locs) (hA : ∀ q, H0.size ≤ q → A q) : ∀ q, va_A [] H.size q → A q := by
  rintro q (⟨k, e, h⟩ | h)
  · simp at h
  · exact hA q (Nat.le_trans hS.1 h)
theorem fr_all {A : Nat → Prop} {ws : va_W} {H0 H : Heap} {locs : List Loc} (hD : va_D A ws) (hS : va_S A H0 H locs) (hA : ∀ q, H0.size ≤ q → A q) : ∀ q, va_A ws H.size q → A q := by
  rintro q (⟨k, e, h⟩ | h)
  · exact hD.2 k (q, e) h
  · exact hA q (Nat.le_trans hS.1 h)
theorem strI.nar {n : Nat} {bs : List Int32} {x y : Nat} {A B : Nat → Prop} {s : State} {H : Heap} (h : strI n bs x y A s H) (hB : ∀ q, B q → A q) : strI n bs x y B s H := ⟨h.1.narrow hB, h.2.1.narrow hB, h.2.2.1.narrow hB, h.2.2.2.narrow hB⟩
set_option maxRecDepth 100000 in
set_option maxHeartbeats 2000000 in
theorem s_newLength (l : Launch) (G : va_G) (cy : Nat → ClassId) (kS vS : Nat → Nat) (g : Nat) (hg : g ≤ 18) : RO l yJ8_newLength_cabcc wsL_law { frames := 1, cells := 0, slots := 0, locals := 40 } (PJ G cy kS vS ([])) [.int (nI 16), .int (nI g), .int (nI 18)] (some (.int 34)) := by
  refine RO.ofB (cc := cJ8_newLength_cabcc) (maxL := 4) (ret := (some .int)) (by decide) (big_at 30 19 rfl) (Nat.le_of_ble_eq_true rfl) ?_
  intro p e s m below meth cq S9 hr hlocks hPB ls hl
  obtain ⟨hx, hb, hml, hown, hts⟩ := id S9
  obtain ⟨⟨hP, hK⟩, hSK, hDZ⟩ := hPB
  have hS : va_S (va_A ([]) s.heap.size) s.heap s.heap [] := va_S.rf
  have hl : lv_has ls 4 [(0, .int (nI 16)), (1, .int (nI g)), (2, .int (nI 18))] := hl
  refine lv_iload_n hx hb dJ8_newLength_cabcc_0 rfl (lv_at hl 0 rfl) ?_
  refine lv_iload_n hx hb dJ8_newLength_cabcc_1 rfl (lv_at hl 1 rfl) ?_
  refine lv_iload_n hx hb dJ8_newLength_cabcc_2 rfl (lv_at hl 2 rfl) ?_
  refine va_mmax hx hb (hml.trans hl.1.symm) hown (hts _ (big_at 30 20 rfl)) (hts _ (big_at 30 21 rfl)) (hts _ (big_at 6 21 rfl)) (hts _ (big_at 30 22 rfl)) (by decide) (Nat.le_of_ble_eq_true rfl) (Nat.zero_le _) (Nat.zero_le _) dJ8_newLength_cabcc_3 ?_
  refine lv_t0 (show (if (nI g) < (nI 18) then (nI 18) else (nI g)) = nI 18 from max18 hg) ?_
  refine lv_iadd hx hb dJ8_newLength_cabcc_6 ?_
  refine lv_t0 (show ((nI 16) + (nI 18)) = 34 from by decide) ?_
  refine lv_istore_n (lv' := [(3, .int 34), (0, .int (nI 16)), (1, .int (nI g)), (2, .int (nI 18))]) hx hb dJ8_newLength_cabcc_7 rfl hl (by decide) rfl (fun ls hl => ?_)
  refine lv_iconst (v := 0) hx hb dJ8_newLength_cabcc_8 (by decide) ?_
  refine lv_iload_n hx hb dJ8_newLength_cabcc_9 rfl (lv_at hl 0 rfl) ?_
  refine lv_icmp_ge (tgt := 21) hx hb dJ8_newLength_cabcc_10 (by decide) (fun c9 => absurd c9 (by decide)) (fun _ => ?_)
  refine lv_iload_n hx hb dJ8_newLength_cabcc_13 rfl (lv_at hl 0 rfl) ?_
  refine lv_ldc hx hb hown (hts _ (big_at 30 23 rfl : Cond.constant RJ8 200 2147483639 ∈ wsL_law)) dJ8_newLength_cabcc_14 ?_
  refine lv_icmp_gt (tgt := 21) hx hb dJ8_newLength_cabcc_16 (by decide) (fun c9 => absurd c9 (by decide)) (fun _ => ?_)
  refine lv_iload_n hx hb dJ8_newLength_cabcc_19 rfl (lv_at hl 0 rfl) ?_
  exact ro_iret hx hb hr hlocks rfl dJ8_newLength_cabcc_20
set_option maxRecDepth 100000 in
set_option maxHeartbeats 2000000 in
theorem s_newCap (l : Launch) (G : va_G) (cy : Nat → ClassId) (kS vS : Nat → Nat) (sb : Nat) (vb : Nat) (n : Nat) (ml : Int32) (f : Nat → Int32) (q : Nat) (hq1 : 17 ≤ q) (hq2 : q ≤ 34) : RO l yJ5_newCapacity_0f7a4 wsL_law { frames := 3, cells := 0, slots := 0, locals := 100 } (PJ G cy kS vS ([(sb, .inr (1, [.ref vb, .int 0, .int ml, .int (nI n)])), (vb, .inl (cy 0, 16, .inl f))])) [.ref sb, .int (nI q)] (some (.int 34)) := by
  refine RO.ofB (cc := cJ5_newCapacity_0f7a4) (maxL := 6) (ret := (some .int)) (by decide) (big_at 30 14 rfl) (Nat.le_of_ble_eq_true rfl) ?_
  intro p e s m below meth cq S9 hr hlocks hPB ls hl
  obtain ⟨hx, hb, hml, hown, hts⟩ := id S9
  obtain ⟨⟨hP, hK⟩, hSK, hDZ⟩ := hPB
  have hS : va_S (va_A ([(sb, .inr (1, [.ref vb, .int 0, .int ml, .int (nI n)])), (vb, .inl (cy 0, 16, .inl f))]) s.heap.size) s.heap s.heap [] := va_S.rf
  have hl : lv_has ls 6 [(0, .ref sb), (1, .int (nI q))] := hl
  refine lv_aload_n hx hb dJ5_newCapacity_0f7a4_0 rfl (lv_at hl 0 rfl) ?_
  refine va_get (D := G) (ci := 1) (v := .ref vb) (C := RJ4) (T := TJ4) (N := 4) hx hb hts hi_J4 hown hK.1 hP 0 rfl rfl 0 (by decide) (hts _ (big_at 4 23 rfl)) (fun _ h9 => h9) rfl dJ5_newCapacity_0f7a4_1 ?_
  refine va_alen hx hb hK.1 hP 1 0 rfl rfl rfl dJ5_newCapacity_0f7a4_4 ?_
  refine lv_istore_n (lv' := [(2, .int (nI 16)), (0, .ref sb), (1, .int (nI q))]) hx hb dJ5_newCapacity_0f7a4_5 rfl hl (by decide) rfl (fun ls hl => ?_)
  refine lv_iload_n hx hb dJ5_newCapacity_0f7a4_6 rfl (lv_at hl 2 rfl) ?_
  refine lv_aload_n hx hb dJ5_newCapacity_0f7a4_7 rfl (lv_at hl 1 rfl) ?_
  refine va_get (D := G) (ci := 1) (v := .int 0) (C := RJ4) (T := TJ4) (N := 4) hx hb hts hi_J4 hown hK.1 hP 0 rfl rfl 1 (by decide) (hts _ (big_at 5 0 rfl)) (fun _ h9 => h9) rfl dJ5_newCapacity_0f7a4_8 ?_
  refine lv_ishl hx hb dJ5_newCapacity_0f7a4_11 ?_
  refine lv_t0 (show ((nI q) <<< ((0 : Int32) &&& 31)) = nI q from shl0 (by omega)) ?_
  refine lv_istore_n (lv' := [(3, .int (nI q)), (2, .int (nI 16)), (0, .ref sb), (1, .int (nI q))]) hx hb dJ5_newCapacity_0f7a4_12 rfl hl (by decide) rfl (fun ls hl => ?_)
  refine lv_iload_n hx hb dJ5_newCapacity_0f7a4_13 rfl (lv_at hl 0 rfl) ?_
  refine lv_iload_n hx hb dJ5_newCapacity_0f7a4_14 rfl (lv_at hl 1 rfl) ?_
  refine lv_isub hx hb dJ5_newCapacity_0f7a4_15 ?_
  refine lv_t0 (show ((nI q) - (nI 16)) = nI (q - 16) from sub_n (by omega) (by omega)) ?_
  refine lv_istore (lv' := [(4, .int (nI (q - 16))), (3, .int (nI q)), (2, .int (nI 16)), (0, .ref sb), (1, .int (nI q))]) hx hb dJ5_newCapacity_0f7a4_16 hl (by decide) rfl (fun ls hl => ?_)
  refine lv_iload_n hx hb dJ5_newCapacity_0f7a4_18 rfl (lv_at hl 2 rfl) ?_
  refine lv_iload hx hb dJ5_newCapacity_0f7a4_19 (lv_at hl 0 rfl) ?_
  refine lv_iload_n hx hb dJ5_newCapacity_0f7a4_21 rfl (lv_at hl 2 rfl) ?_
  refine lv_iconst (v := 2) hx hb dJ5_newCapacity_0f7a4_22 (by decide) ?_
  refine lv_aload_n hx hb dJ5_newCapacity_0f7a4_23 rfl (lv_at hl 3 rfl) ?_
  refine va_get (D := G) (ci := 1) (v := .int 0) (C := RJ4) (T := TJ4) (N := 4) hx hb hts hi_J4 hown hK.1 hP 0 rfl rfl 1 (by decide) (hts _ (big_at 5 0 rfl)) (fun _ h9 => h9) rfl dJ5_newCapacity_0f7a4_24 ?_
  refine lv_ishl hx hb dJ5_newCapacity_0f7a4_27 ?_
  refine lv_iadd hx hb dJ5_newCapacity_0f7a4_28 ?_
  refine lv_t0 (show ((nI 16) + ((2 : Int32) <<< ((0 : Int32) &&& 31))) = nI 18 from by decide) ?_
  refine m_ro (va_runS S9 (s_newLength l G cy kS vS (q - 16) (by omega)) (bigS 3 hts (big_at 30 16 rfl) (big_at 30 18 rfl) (big_at 30 19 rfl) (big_at 30 17 rfl) rfl rfl (by decide +kernel) ⟨Nat.le_of_ble_eq_true rfl, Nat.le_of_ble_eq_true rfl⟩) ⟨fun b2 U g mk q => ⟨q.1, PJ.blind U g mk b2 q.2⟩, fun U hU hW => ⟨rfl, PJ.at hSK hDZ hS (fr_nil hS (fun q h => Or.inr h)) hK (m_Ppart hP [] rfl) U hU hW⟩⟩ (g := F0 m _ ls _) rfl rfl hl.1 rfl (lv_room (Nat.le_of_ble_eq_true rfl)) dJ5_newCapacity_0f7a4_29 ⟨Nat.le_of_ble_eq_true rfl, Nat.le_of_ble_eq_true rfl⟩) ?_
  refine lv_istore (lv' := [(5, .int 34), (4, .int (nI (q - 16))), (3, .int (nI q)), (2, .int (nI 16)), (0, .ref sb), (1, .int (nI q))]) hx hb dJ5_newCapacity_0f7a4_32 hl (by decide) rfl (fun ls hl => ?_)
  refine lv_iload hx hb dJ5_newCapacity_0f7a4_34 (lv_at hl 0 rfl) ?_
  refine lv_ldc hx hb hown (hts _ (big_at 30 15 rfl : Cond.constant RJ5 39 2147483647 ∈ wsL_law)) dJ5_newCapacity_0f7a4_36 ?_
  refine lv_icmp_ne (tgt := 51) hx hb dJ5_newCapacity_0f7a4_38 (by decide) (fun _ => ?_) (fun c9 => absurd c9 (by decide))
  refine lv_iload hx hb dJ5_newCapacity_0f7a4_51 (lv_at hl 0 rfl) ?_
  refine lv_aload_n hx hb dJ5_newCapacity_0f7a4_53 rfl (lv_at hl 4 rfl) ?_
  refine va_get (D := G) (ci := 1) (v := .int 0) (C := RJ4) (T := TJ4) (N := 4) hx hb hts hi_J4 hown hK.1 hP 0 rfl rfl 1 (by decide) (hts _ (big_at 5 0 rfl)) (fun _ h9 => h9) rfl dJ5_newCapacity_0f7a4_54 ?_
  refine lv_ishr hx hb dJ5_newCapacity_0f7a4_57 ?_
  refine lv_t0 (show ((34 : Int32) >>> ((0 : Int32) &&& 31)) = 34 from by decide) ?_
  exact ro_iret hx hb hr hlocks rfl dJ5_newCapacity_0f7a4_58
set_option maxRecDepth 100000 in
set_option maxHeartbeats 2000000 in
theorem s_copyOf (l : Launch) (G : va_G) (cy : Nat → ClassId) (kS vS : Nat → Nat) (vb : Nat) (f : Nat → Int32) (hf : ∀ i, i < 16 → fits .byte (.int (f i)) = true) : GR (T9 := Nat) l yJ7_copyOf_9075b { frames := 2, cells := 1, slots := 34, locals := 80 } 1 34 G (PJ G cy kS vS ([(vb, .inl (cy 0, 16, .inl f))])) [.ref vb, .int 34] ([(vb, .inl (cy 0, 16, .inl f))]) (fun _ => True) (fun u => [(vb, .inl (cy 0, 16, .inl f)), (u, .inl (cy 0, 34, .inl (va_cpy f (fun _ => 0) 0 0 16)))]) (fun u => some (.ref u)) := by
  refine GR.ofB (cc := cJ7_copyOf_9075b) (maxL := 3) (ret := (some (.array .byte))) (by decide) (big_at 31 6 rfl) (Nat.le_of_ble_eq_true rfl) ?_
  intro p e s m below meth cq S9 hr hlocks hin hPB hD hS hA ls hl
  obtain ⟨hx, hb, hml, hown, hts⟩ := id S9
  obtain ⟨⟨hP, hK⟩, hSK, hDZ⟩ := hPB
  have hl : lv_has ls 3 [(0, .ref vb), (1, .int 34)] := hl
  refine lv_iload_n hx hb dJ7_copyOf_9075b_0 rfl (lv_at hl 1 rfl) ?_
  refine lv_aload_n hx hb dJ7_copyOf_9075b_1 rfl (lv_at hl 0 rfl) ?_
  refine va_alen hx hb hK.1 hP 0 0 rfl rfl rfl dJ7_copyOf_9075b_2 ?_
  refine lv_t0 (show (nI 16) = 16 from rfl) ?_
  refine lv_icmp_ne (tgt := 14) hx hb dJ7_copyOf_9075b_3 (by decide) (fun _ => ?_) (fun c9 => absurd c9 (by decide))
  refine lv_iload_n hx hb dJ7_copyOf_9075b_14 rfl (lv_at hl 1 rfl) ?_
  refine m_newa (atype := .byte) (ty := .byte) (N' := 34) (a0 := (34, .inl (fun _ => 0))) hx hb (hts _ (big_at 4 22 rfl)) rfl hK 0 rfl hP hD hS hA (fun _ => rfl) (by decide) rfl (Nat.le_of_ble_eq_true rfl) (Nat.le_of_ble_eq_true rfl) (Nat.le_of_ble_eq_true rfl) dJ7_copyOf_9075b_15 (fun x0 H hP hD hS => ?_)
  have hP : va_P G vwCl [(vb, .inl (cy 0, 16, .inl f)), (x0, .inl (cy 0, 34, .inl (fun _ => 0)))] _ := hP
  have hD : va_D (va_A ([(vb, .inl (cy 0, 16, .inl f))]) s.heap.size) [(vb, .inl (cy 0, 16, .inl f)), (x0, .inl (cy 0, 34, .inl (fun _ => 0)))] := hD
  refine lv_astore_n (lv' := [(2, .ref x0), (0, .ref vb), (1, .int 34)]) hx hb dJ7_copyOf_9075b_17 rfl hl (by decide) rfl (fun ls hl => ?_)
  refine lv_aload_n hx hb dJ7_copyOf_9075b_18 rfl (lv_at hl 1 rfl) ?_
  refine lv_iconst (v := 0) hx hb dJ7_copyOf_9075b_19 (by decide) ?_
  refine lv_aload_n hx hb dJ7_copyOf_9075b_20 rfl (lv_at hl 0 rfl) ?_
  refine lv_iconst (v := 0) hx hb dJ7_copyOf_9075b_21 (by decide) ?_
  refine lv_aload_n hx hb dJ7_copyOf_9075b_22 rfl (lv_at hl 1 rfl) ?_
  refine va_alen hx hb hK.1 hP 0 0 rfl rfl rfl dJ7_copyOf_9075b_23 ?_
  refine lv_iload_n hx hb dJ7_copyOf_9075b_24 rfl (lv_at hl 2 rfl) ?_
  refine va_mmin hx hb (hml.trans hl.1.symm) hown (hts _ (big_at 31 13 rfl)) (hts _ (big_at 6 20 rfl)) (hts _ (big_at 6 21 rfl)) (hts _ (big_at 6 22 rfl)) (by decide) (Nat.le_of_ble_eq_true rfl) (show _ ≤ 1 by omega) (show _ ≤ 34 by omega) dJ7_copyOf_9075b_25 ?_
  refine lv_t0 (show (if 34 < (nI 16) then 34 else (nI 16)) = nI 16 from by decide) ?_
  refine va_copyi hx hb (hml.trans hl.1.symm) hown (hts _ (big_at 31 14 rfl)) (hts _ (big_at 31 15 rfl)) (hts _ (big_at 31 16 rfl)) (hts _ (big_at 31 17 rfl)) hK.1 hP hD hS 0 1 0 0 rfl rfl rfl rfl rfl (sp := nI 0) (dp := nI 0) (n := nI 16) (fun z => absurd ((nI_ltI (b := 0) (by omega) (by omega)).mp z) (Nat.not_lt_zero _)) (fun z => absurd ((nI_ltI (b := 0) (by omega) (by omega)).mp z) (Nat.not_lt_zero _)) (fun z => absurd ((nI_ltI (b := 0) (by omega) (by omega)).mp z) (Nat.not_lt_zero _)) (by rw [nI_clamp (show 0 < 2 ^ 31 by omega), nI_clamp (show 16 < 2 ^ 31 by omega)]; omega) (by rw [nI_clamp (show 0 < 2 ^ 31 by omega), nI_clamp (show 16 < 2 ^ 31 by omega)]; omega) (by rw [nI_clamp (show 0 < 2 ^ 31 by omega), nI_clamp (show 16 < 2 ^ 31 by omega)]; exact (fun i hi => by rw [Nat.zero_add]; exact hf i hi)) (Nat.le_of_ble_eq_true rfl) (by decide) dJ7_copyOf_9075b_28 (fun H locs hP hD hS => ?_)
  rw [nI_clamp (show 0 < 2 ^ 31 by omega), nI_clamp (show 16 < 2 ^ 31 by omega)] at hP hD
  have hP : va_P G vwCl [(vb, .inl (cy 0, 16, .inl f)), (x0, .inl (cy 0, 34, .inl (va_cpy f (fun _ => 0) 0 0 16)))] _ := hP
  have hD : va_D (va_A ([(vb, .inl (cy 0, 16, .inl f))]) s.heap.size) [(vb, .inl (cy 0, 16, .inl f)), (x0, .inl (cy 0, 34, .inl (va_cpy f (fun _ => 0) 0 0 16)))] := hD
  refine lv_aload_n hx hb dJ7_copyOf_9075b_31 rfl (lv_at hl 0 rfl) ?_
  exact gr_aret hx hb hr hlocks (Or.inr ⟨_, rfl⟩) x0 trivial rfl hP hD hS (Nat.le_of_ble_eq_true rfl) (Nat.le_of_ble_eq_true rfl) dJ7_copyOf_9075b_32
theorem le0_sub {a b : Nat} (hb : b < 1000) (h : a ≤ b) : nI a - nI b ≤ 0 := by
  rw [Int32.le_iff_toInt_le, ti_sub (nI_toInt (show a < 2 ^ 31 by omega)) (nI_toInt (show b < 2 ^ 31 by omega)) (by omega) (by omega), Int32.toInt_zero]
  omega
theorem gt0_sub {a b : Nat} (ha : a < 1000) (h : b < a) : ¬ nI a - nI b ≤ 0 := by
  rw [Int32.le_iff_toInt_le, ti_sub (nI_toInt (show a < 2 ^ 31 by omega)) (nI_toInt (show b < 2 ^ 31 by omega)) (by omega) (by omega), Int32.toInt_zero]
  omega
set_option maxRecDepth 100000 in
set_option maxHeartbeats 2000000 in
theorem s_ens0 (l : Launch) (G : va_G) (cy : Nat → ClassId) (kS vS : Nat → Nat) (sb : Nat) (vb : Nat) (n : Nat) (ml : Int32) (f : Nat → Int32) (mb : Nat) (q : Nat) (hm : mb ≤ 34) (hq : q ≤ mb) : RO l yJ5_ensureCapacityInternal_d00df wsL_law { frames := 1, cells := 0, slots := 0, locals := 60 } (PJ G cy kS vS ([(sb, .inr (1, [.ref vb, .int 0, .int ml, .int (nI n)])), (vb, .inl (cy 0, mb, .inl f))])) [.ref sb, .int (nI q)] (none) := by
  refine RO.ofB (cc := cJ5_ensureCapacityInternal_d00df) (maxL := 3) (ret := none) (by decide) (big_at 30 9 rfl) (Nat.le_of_ble_eq_true rfl) ?_
  intro p e s m below meth cq S9 hr hlocks hPB ls hl
  obtain ⟨hx, hb, hml, hown, hts⟩ := id S9
  obtain ⟨⟨hP, hK⟩, hSK, hDZ⟩ := hPB
  have hS : va_S (va_A ([(sb, .inr (1, [.ref vb, .int 0, .int ml, .int (nI n)])), (vb, .inl (cy 0, mb, .inl f))]) s.heap.size) s.heap s.heap [] := va_S.rf
  have hl : lv_has ls 3 [(0, .ref sb), (1, .int (nI q))] := hl
  refine lv_aload_n hx hb dJ5_ensureCapacityInternal_d00df_0 rfl (lv_at hl 0 rfl) ?_
  refine va_get (D := G) (ci := 1) (v := .ref vb) (C := RJ4) (T := TJ4) (N := 4) hx hb hts hi_J4 hown hK.1 hP 0 rfl rfl 0 (by decide) (hts _ (big_at 4 23 rfl)) (fun _ h9 => h9) rfl dJ5_ensureCapacityInternal_d00df_1 ?_
  refine va_alen hx hb hK.1 hP 1 0 rfl rfl rfl dJ5_ensureCapacityInternal_d00df_4 ?_
  refine lv_aload_n hx hb dJ5_ensureCapacityInternal_d00df_5 rfl (lv_at hl 0 rfl) ?_
  refine va_get (D := G) (ci := 1) (v := .int 0) (C := RJ4) (T := TJ4) (N := 4) hx hb hts hi_J4 hown hK.1 hP 0 rfl rfl 1 (by decide) (hts _ (big_at 5 0 rfl)) (fun _ h9 => h9) rfl dJ5_ensureCapacityInternal_d00df_6 ?_
  refine lv_ishr hx hb dJ5_ensureCapacityInternal_d00df_9 ?_
  refine lv_t0 (show ((nI mb) >>> ((0 : Int32) &&& 31)) = nI mb from shr0 (by omega)) ?_
  refine lv_istore_n (lv' := [(2, .int (nI mb)), (0, .ref sb), (1, .int (nI q))]) hx hb dJ5_ensureCapacityInternal_d00df_10 rfl hl (by decide) rfl (fun ls hl => ?_)
  refine lv_iload_n hx hb dJ5_ensureCapacityInternal_d00df_11 rfl (lv_at hl 2 rfl) ?_
  refine lv_iload_n hx hb dJ5_ensureCapacityInternal_d00df_12 rfl (lv_at hl 0 rfl) ?_
  refine lv_isub hx hb dJ5_ensureCapacityInternal_d00df_13 ?_
  refine lv_if_le (tgt := 38) hx hb dJ5_ensureCapacityInternal_d00df_14 (by decide) (fun _ => ?_) (fun c9 => absurd (le0_sub (by omega) hq) c9)
  exact W.vret hx hb hr (fun t ht _ => ⟨rfl, ht⟩) (fun q h => by cases h) dJ5_ensureCapacityInternal_d00df_38 hlocks
set_option maxRecDepth 100000 in
set_option maxHeartbeats 2000000 in
theorem s_ens1 (l : Launch) (G : va_G) (cy : Nat → ClassId) (kS vS : Nat → Nat) (sb : Nat) (vb : Nat) (n : Nat) (ml : Int32) (f : Nat → Int32) (q : Nat) (hq1 : 17 ≤ q) (hq2 : q ≤ 34) (hf : ∀ i, i < 16 → fits .byte (.int (f i)) = true) : GR (T9 := Nat) l yJ5_ensureCapacityInternal_d00df { frames := 4, cells := 1, slots := 34, locals := 200 } 1 34 G (PJ G cy kS vS ([(sb, .inr (1, [.ref vb, .int 0, .int ml, .int (nI n)])), (vb, .inl (cy 0, 16, .inl f))])) [.ref sb, .int (nI q)] ([(sb, .inr (1, [.ref vb, .int 0, .int ml, .int (nI n)])), (vb, .inl (cy 0, 16, .inl f))]) (fun _ => True) (fun u => [(sb, .inr (1, [.ref u, .int 0, .int ml, .int (nI n)])), (u, .inl (cy 0, 34, .inl (va_cpy f (fun _ => 0) 0 0 16)))]) (fun _ => none) := by
  refine GR.ofB (cc := cJ5_ensureCapacityInternal_d00df) (maxL := 3) (ret := none) (by decide) (big_at 30 9 rfl) (Nat.le_of_ble_eq_true rfl) ?_
  intro p e s m below meth cq S9 hr hlocks hin hPB hD hS hA ls hl
  obtain ⟨hx, hb, hml, hown, hts⟩ := id S9
  obtain ⟨⟨hP, hK⟩, hSK, hDZ⟩ := hPB
  have hl : lv_has ls 3 [(0, .ref sb), (1, .int (nI q))] := hl
  refine lv_aload_n hx hb dJ5_ensureCapacityInternal_d00df_0 rfl (lv_at hl 0 rfl) ?_
  refine va_get (D := G) (ci := 1) (v := .ref vb) (C := RJ4) (T := TJ4) (N := 4) hx hb hts hi_J4 hown hK.1 hP 0 rfl rfl 0 (by decide) (hts _ (big_at 4 23 rfl)) (fun _ h9 => h9) rfl dJ5_ensureCapacityInternal_d00df_1 ?_
  refine va_alen hx hb hK.1 hP 1 0 rfl rfl rfl dJ5_ensureCapacityInternal_d00df_4 ?_
  refine lv_aload_n hx hb dJ5_ensureCapacityInternal_d00df_5 rfl (lv_at hl 0 rfl) ?_
  refine va_get (D := G) (ci := 1) (v := .int 0) (C := RJ4) (T := TJ4) (N := 4) hx hb hts hi_J4 hown hK.1 hP 0 rfl rfl 1 (by decide) (hts _ (big_at 5 0 rfl)) (fun _ h9 => h9) rfl dJ5_ensureCapacityInternal_d00df_6 ?_
  refine lv_ishr hx hb dJ5_ensureCapacityInternal_d00df_9 ?_
  refine lv_t0 (show ((nI 16) >>> ((0 : Int32) &&& 31)) = nI 16 from shr0 (by omega)) ?_
  refine lv_istore_n (lv' := [(2, .int (nI 16)), (0, .ref sb), (1, .int (nI q))]) hx hb dJ5_ensureCapacityInternal_d00df_10 rfl hl (by decide) rfl (fun ls hl => ?_)
  refine lv_iload_n hx hb dJ5_ensureCapacityInternal_d00df_11 rfl (lv_at hl 2 rfl) ?_
  refine lv_iload_n hx hb dJ5_ensureCapacityInternal_d00df_12 rfl (lv_at hl 0 rfl) ?_
  refine lv_isub hx hb dJ5_ensureCapacityInternal_d00df_13 ?_
  refine lv_if_le (tgt := 38) hx hb dJ5_ensureCapacityInternal_d00df_14 (by decide) (fun c9 => absurd c9 (gt0_sub (by omega) (by omega))) (fun _ => ?_)
  refine lv_aload_n hx hb dJ5_ensureCapacityInternal_d00df_17 rfl (lv_at hl 1 rfl) ?_
  refine lv_aload_n hx hb dJ5_ensureCapacityInternal_d00df_18 rfl (lv_at hl 1 rfl) ?_
  refine va_get (D := G) (ci := 1) (v := .ref vb) (C := RJ4) (T := TJ4) (N := 4) hx hb hts hi_J4 hown hK.1 hP 0 rfl rfl 0 (by decide) (hts _ (big_at 4 23 rfl)) (fun _ h9 => h9) rfl dJ5_ensureCapacityInternal_d00df_19 ?_
  refine lv_aload_n hx hb dJ5_ensureCapacityInternal_d00df_22 rfl (lv_at hl 1 rfl) ?_
  refine lv_iload_n hx hb dJ5_ensureCapacityInternal_d00df_23 rfl (lv_at hl 2 rfl) ?_
  refine m_ro (va_runU S9 (s_newCap l G cy kS vS sb vb n ml f q hq1 hq2) (bigU (owner := "java/lang/AbstractStringBuilder") 1 hts (big_at 30 10 rfl) (big_at 30 11 rfl) (big_at 30 12 rfl) (big_at 30 13 rfl) (big_at 4 18 rfl) (big_at 30 14 rfl) rfl rfl rfl (by decide +kernel) ⟨Nat.le_of_ble_eq_true rfl, Nat.le_of_ble_eq_true rfl⟩) ⟨fun b2 U g mk q => ⟨q.1, PJ.blind U g mk b2 q.2⟩, va_recv hK.1 hP (ci := 1) (q0 := 0) rfl rfl, fun U hU hW => ⟨rfl, PJ.at hSK hDZ hS (fr_all hD hS hA) hK hP U hU hW⟩⟩ (g := F0 m _ ls _) rfl rfl hl.1 rfl (lv_room (Nat.le_of_ble_eq_true rfl)) dJ5_ensureCapacityInternal_d00df_24 ⟨Nat.le_of_ble_eq_true rfl, Nat.le_of_ble_eq_true rfl⟩) ?_
  refine lv_aload_n hx hb dJ5_ensureCapacityInternal_d00df_27 rfl (lv_at hl 1 rfl) ?_
  refine va_get (D := G) (ci := 1) (v := .int 0) (C := RJ4) (T := TJ4) (N := 4) hx hb hts hi_J4 hown hK.1 hP 0 rfl rfl 1 (by decide) (hts _ (big_at 5 0 rfl)) (fun _ h9 => h9) rfl dJ5_ensureCapacityInternal_d00df_28 ?_
  refine lv_ishl hx hb dJ5_ensureCapacityInternal_d00df_31 ?_
  refine lv_t0 (show ((34 : Int32) <<< ((0 : Int32) &&& 31)) = 34 from by decide) ?_
  have hP : va_P G vwCl ([(sb, .inr (1, [.ref vb, .int 0, .int ml, .int (nI n)]))] ++ [(vb, .inl (cy 0, 16, .inl f))]) _ := hP
  have hD : va_D (va_A ([(sb, .inr (1, [.ref vb, .int 0, .int ml, .int (nI n)])), (vb, .inl (cy 0, 16, .inl f))]) s.heap.size) ([(sb, .inr (1, [.ref vb, .int 0, .int ml, .int (nI n)]))] ++ [(vb, .inl (cy 0, 16, .inl f))]) := hD
  have hFw := free_of hD hS hA
  refine g_run (va_runS S9 ((s_copyOf l G cy kS vS vb f hf) _) (bigS 2 hts (big_at 31 3 rfl) (big_at 31 5 rfl) (big_at 31 6 rfl) (big_at 31 4 rfl) rfl rfl (by decide +kernel) ⟨Nat.le_of_ble_eq_true rfl, Nat.le_of_ble_eq_true rfl⟩) ⟨fun b2 U g mk q => ⟨q.1, q.2.1, PJ.blind U g mk b2 q.2.2.1, q.2.2.2⟩, fun U hU hW => ⟨rfl, (congrArg Array.size hU), PJ.at hSK hDZ hS hFw hK (strip_P hP) U hU hW, (strip_D hD).weaken (fun _ _ _ _ => trivial)⟩⟩ (g := F0 m _ ls _) rfl rfl hl.1 rfl (lv_room (Nat.le_of_ble_eq_true rfl)) dJ5_ensureCapacityInternal_d00df_32 ⟨Nat.le_of_ble_eq_true rfl, Nat.le_of_ble_eq_true rfl⟩) hP hD hS hA (fun u H locs hu hP hD hS => ?_)
  have hP : va_P G vwCl [(sb, .inr (1, [.ref vb, .int 0, .int ml, .int (nI n)])), (vb, .inl (cy 0, 16, .inl f)), (u, .inl (cy 0, 34, .inl (va_cpy f (fun _ => 0) 0 0 16)))] _ := hP
  have hD : va_D (va_A ([(sb, .inr (1, [.ref vb, .int 0, .int ml, .int (nI n)])), (vb, .inl (cy 0, 16, .inl f))]) s.heap.size) [(sb, .inr (1, [.ref vb, .int 0, .int ml, .int (nI n)])), (vb, .inl (cy 0, 16, .inl f)), (u, .inl (cy 0, 34, .inl (va_cpy f (fun _ => 0) 0 0 16)))] := hD
  refine va_put (D := G) (ci := 1) (v := .ref u) (ty := .array .byte) (C := RJ4) (T := TJ4) (N := 4) hx hb hts hi_J4 tyJ4 tyJ4_ok nmJ4 hown hK.1 hP hD hS 0 rfl rfl 0 (by decide) (hts _ (big_at 4 23 rfl)) (fun _ h9 => h9) rfl (by decide +kernel) rfl rfl (Nat.le_of_ble_eq_true rfl) dJ5_ensureCapacityInternal_d00df_35 (fun H locs hP hD hS => ?_)
  have hP : va_P G vwCl [(sb, .inr (1, [.ref u, .int 0, .int ml, .int (nI n)])), (vb, .inl (cy 0, 16, .inl f)), (u, .inl (cy 0, 34, .inl (va_cpy f (fun _ => 0) 0 0 16)))] _ := hP
  have hD : va_D (va_A ([(sb, .inr (1, [.ref vb, .int 0, .int ml, .int (nI n)])), (vb, .inl (cy 0, 16, .inl f))]) s.heap.size) [(sb, .inr (1, [.ref u, .int 0, .int ml, .int (nI n)])), (vb, .inl (cy 0, 16, .inl f)), (u, .inl (cy 0, 34, .inl (va_cpy f (fun _ => 0) 0 0 16)))] := hD
  have hP : va_P G vwCl [(sb, .inr (1, [.ref u, .int 0, .int ml, .int (nI n)])), (u, .inl (cy 0, 34, .inl (va_cpy f (fun _ => 0) 0 0 16)))] _ := hP.sub [0, 2] rfl
  have hD : va_D (va_A ([(sb, .inr (1, [.ref vb, .int 0, .int ml, .int (nI n)])), (vb, .inl (cy 0, 16, .inl f))]) s.heap.size) [(sb, .inr (1, [.ref u, .int 0, .int ml, .int (nI n)])), (u, .inl (cy 0, 34, .inl (va_cpy f (fun _ => 0) 0 0 16)))] := hD.sub [0, 2] (by decide) rfl
  exact gr_vret hx hb hr hlocks u trivial rfl hP hD hS (Nat.le_of_ble_eq_true rfl) (Nat.le_of_ble_eq_true rfl) dJ5_ensureCapacityInternal_d00df_38
