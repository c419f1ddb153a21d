/-! undoing -/
set_option maxRecDepth 100000 in
set_option maxHeartbeats 16000000 in
theorem n_undone (l : Launch) (G : va_G) (cy : Nat → ClassId) (kS vS : Nat → Nat) (a : OA) (V : OV) (b : Nat) (L : Nat) (xs : Nat → Int32) (n0 : Nat) (hl9 : l.stackTraces = false) (hG0 : GV n0 V) (hn0 : n0 + 5000 < 2147483648) : LZ l yL_undone 15 500 1700 G cy kS vS a V b L xs [.ref b, .ref a.aX] ((fun V2 r2 => r2 = .int 1)) := by
  refine LZ.ofW (cc := cL_undone) (maxL := 8) (ret := (some .boolean)) (by decide) (big_at 45 15 rfl) (Nat.le_of_ble_eq_true rfl) ?_
  intro p e s m below meth cq u0 S9 hr hlocks hPQ hXQ hD hS hA ls hl
  obtain ⟨hx, hb, hml, hown, hts⟩ := id S9
  have hLF := LF.mk hPQ
  have hK := hLF.1
  have hP : va_P G vwCl (fl [OW cy a V u0]) s.heap := hPQ.1.1
  have hD : va_D (va_A (OW cy a V u0) s.heap.size) (fl [OW cy a V u0]) := hD
  have hc : 0 + 1700 ≤ 1700 := Nat.le_of_ble_eq_true rfl
  have hs : 0 + 64 * 1700 ≤ 64 * 1700 := Nat.le_of_ble_eq_true rfl
  have hl : lv_has ls 8 [(0, .ref b), (1, .ref a.aX)] := hl
  obtain ⟨hX, hbl, hbw, hL⟩ := hXQ
  have hbA : ¬ va_A (OW cy a V u0) s.heap.size b := fun z => z.elim hbw (fun z => absurd hbl (Nat.not_lt.mpr z))
  have hSK := hLF.2.2.2.1
  have hDZ := hLF.2.2.2.2.1
  refine lv_bipush (v := 9) hx hb dL_undone_0 (by decide) ?_
  refine c_newa (Wc := [OW cy a V u0]) (atype := .long) (ty := .long) (a0 := (9, .inr (.inl (fun _ => 0)))) hx hb (hts _ (big_at 45 16 rfl)) rfl hK 5 rfl hP hD hS hA 9 (fun _ => rfl) rfl (by decide) (Nat.le_of_ble_eq_true rfl) (MC := 1700) ⟨rfl, rfl⟩ (1699) (by omega) (by omega) dL_undone_2 (fun q H cells slots hc hs hP hD hS => ?_)
  have hP : va_P G vwCl (fl [OW cy a V u0, [(q, .inl (cy 5, 9, .inr (.inl (fun _ => 0))))]]) H := hP
  have hD : va_D (va_A (OW cy a V u0) s.heap.size) (fl [OW cy a V u0, [(q, .inl (cy 5, 9, .inr (.inl (fun _ => 0))))]]) := hD
  refine lv_astore_n (lv' := [(2, .ref q), (0, .ref b), (1, .ref a.aX)]) hx hb dL_undone_4 rfl hl (by decide) rfl (fun ls hl => ?_)
  refine lv_iconst (v := 0) hx hb dL_undone_5 (by decide) ?_
  refine lv_istore_n (lv' := [(3, .int 0), (2, .ref q), (0, .ref b), (1, .ref a.aX)]) hx hb dL_undone_6 rfl hl (by decide) rfl (fun ls hl => ?_)
  refine lv_iconst (v := 0) hx hb dL_undone_7 (by decide) ?_
  refine lv_istore (lv' := [(4, .int 0), (3, .int 0), (2, .ref q), (0, .ref b), (1, .ref a.aX)]) hx hb dL_undone_8 hl (by decide) rfl (fun ls hl => ?_)
  have L10 : ∀ (d k : Nat), k + d = 7 → ∀ (u : OU) (V1 : OV) (dn : Nat) (g : Nat → Int64) (S : Nat → St) (H : Heap) (locs : List Loc) (cells slots : Nat), (UD n0 k dn V1 g S) → cells + (180 * d + 330) ≤ 1700 → slots + 64 * (180 * d + 330) ≤ 64 * 1700 → va_P G vwCl (fl [OW cy a V1 u, [(q, .inl (cy 5, 9, .inr (.inl g)))]]) H → va_D (va_A (OW cy a V u0) s.heap.size) (fl [OW cy a V1 u, [(q, .inl (cy 5, 9, .inr (.inl g)))]]) → va_S (va_A (OW cy a V u0) s.heap.size) s.heap H locs → ∀ ls : Array Slot, lv_has ls 8 [(4, .int (nI k)), (3, .int (nI dn)), (2, .ref q), (1, .ref a.aX), (0, .ref b)] → W p l e ({ frames := 15, cells := 1700, slots := 64 * 1700, locals := 500 } : Room) s m ([.ref b, .ref a.aX] : List Value).toArray below meth cq H locs cells slots (lxZ below ([.ref b, .ref a.aX] : List Value).toArray s G cy a V u0 ((fun V2 r2 => r2 = .int 1)) 1700) (F0 m 10 ls []) := by
    intro d
    induction d with
    | zero =>
      intro k hk u V1 dn g S H locs cells slots hU hc hs hP hD hS ls hl
      have hk9 : k = 7 := by omega
      have et : k = 7 := hk9
      subst et
      refine lv_iload hx hb dL_undone_10 (lv_at hl 0 rfl) ?_
      refine lv_bipush (v := 7) hx hb dL_undone_12 (by decide) ?_
      refine lv_icmp_ge (tgt := 367) hx hb dL_undone_14 (by decide) (fun _ => ?_) (fun c9 => absurd (by decide) c9)
      refine lv_iload_n hx hb dL_undone_367 rfl (lv_at hl 1 rfl) ?_
      refine lv_iconst (v := 1) hx hb dL_undone_368 (by decide) ?_
      refine lv_isub hx hb dL_undone_369 ?_
      refine lv_istore (lv' := [(4, .int ((nI dn) - 1)), (3, .int (nI dn)), (2, .ref q), (1, .ref a.aX), (0, .ref b)]) hx hb dL_undone_370 hl (by decide) rfl (fun ls hl => ?_)
      obtain ⟨hIS, hgS⟩ := hU.2.2.2.2.2
      have hd7 : dn ≤ 7 := hU.1
      have L372 : ∀ (d i : Nat), i + d = dn → ∀ (u : OU) (Vb : OV) (H : Heap) (locs : List Loc) (cells slots : Nat), (UB (dn - i) Vb S) → cells + (46 * d + 4) ≤ 1700 → slots + 64 * (46 * d + 4) ≤ 64 * 1700 → va_P G vwCl (fl [OW cy a Vb u, [(q, .inl (cy 5, 9, .inr (.inl g)))]]) H → va_D (va_A (OW cy a V u0) s.heap.size) (fl [OW cy a Vb u, [(q, .inl (cy 5, 9, .inr (.inl g)))]]) → va_S (va_A (OW cy a V u0) s.heap.size) s.heap H locs → ∀ ls : Array Slot, lv_has ls 8 [(4, .int (nI (dn - i) - 1)), (2, .ref q), (1, .ref a.aX), (0, .ref b)] → W p l e ({ frames := 15, cells := 1700, slots := 64 * 1700, locals := 500 } : Room) s m ([.ref b, .ref a.aX] : List Value).toArray below meth cq H locs cells slots (lxZ below ([.ref b, .ref a.aX] : List Value).toArray s G cy a V u0 ((fun V2 r2 => r2 = .int 1)) 1700) (F0 m 372 ls []) := by
        intro d
        induction d with
        | zero =>
          intro i hi u Vb H locs cells slots hB hc hs hP hD hS ls hl
          have hi9 : i = dn := by omega
          have e0 : nI (dn - i) - 1 = -1 := by rw [hi9, Nat.sub_self]; decide
          rw [e0] at hl
          have hl : lv_has ls 8 [(4, .int (-1)), (2, .ref q), (1, .ref a.aX), (0, .ref b)] := hl
          refine lv_iload hx hb dL_undone_372 (lv_at hl 0 rfl) ?_
          refine lv_if_lt (tgt := 404) hx hb dL_undone_374 (by decide) (fun _ => ?_) (fun c9 => absurd (by decide) c9)
          refine lv_iconst (v := 1) hx hb dL_undone_404 (by decide) ?_
          exact lx_zret (R := fun V2 r2 => r2 = Value.int 1) (V := Vb) hx hb hr hlocks (by rfl) (show (Value.int 1 : Value) = .int 1 from rfl) hP hS (by omega) (by omega) dL_undone_405
        | succ d ih2 =>
          intro i hi u Vb H locs cells slots hB hc hs hP hD hS ls hl
          have hi9 : i < dn := by omega
          have eL : nI (dn - i) - 1 = nI (dn - (i + 1)) := ltr1 hi9
          rw [eL] at hl
          have hl : lv_has ls 8 [(4, .int (nI (dn - (i + 1)))), (2, .ref q), (1, .ref a.aX), (0, .ref b)] := hl
          refine lv_iload hx hb dL_undone_372 (lv_at hl 0 rfl) ?_
          refine lv_if_lt (tgt := 404) hx hb dL_undone_374 (by decide) (fun c9 => absurd c9 (ge0_nI (by omega))) (fun _ => ?_)
          refine lv_aload_n hx hb dL_undone_377 rfl (lv_at hl 2 rfl) ?_
          refine lx_SW S9 hLF (g_undo l G cy kS vS a Vb S (dn - (i + 1)) (by rw [show dn - (i + 1) + 1 = dn - i from by omega]; exact hB)) (bigSW 1 hts (big_at 51 20 rfl) (big_at 0 2 rfl) (big_at 51 22 rfl) (big_at 51 21 rfl) rfl rfl (by decide +kernel) ⟨Nat.le_of_ble_eq_true rfl, Nat.le_of_ble_eq_true rfl⟩) hP hD hS hA rfl hl.1 rfl (Nat.le_of_ble_eq_true rfl) (MC := 1700) ⟨rfl, rfl⟩ (46 * d + 49) (by omega) (by omega) dL_undone_378 (fun V2 r2 u H locs cells slots hR hc hs hP hD hS => ?_)
          have hP : va_P G vwCl (fl [OW cy a V2 u, [(q, .inl (cy 5, 9, .inr (.inl g)))]]) H := hP
          have hD : va_D (va_A (OW cy a V u0) s.heap.size) (fl [OW cy a V2 u, [(q, .inl (cy 5, 9, .inr (.inl g)))]]) := hD
          obtain ⟨⟨r, e2, hr9⟩, hB2⟩ := hR
          subst e2
          refine lv_if_lt (tgt := 396) hx hb dL_undone_381 (by decide) (fun c9 => absurd c9 hr9) (fun _ => ?_)
          refine lv_aload_n hx hb dL_undone_384 rfl (lv_at hl 2 rfl) ?_
          refine lq_S S9 hLF (n_sum l G cy kS vS a V2 (n0 + 2100) hl9 (by rw [← hB2.1]; exact hIS _ (by omega))) (bigS 1 hts (big_at 45 17 rfl) (big_at 0 2 rfl) (big_at 45 19 rfl) (big_at 45 18 rfl) rfl rfl (by decide +kernel) ⟨Nat.le_of_ble_eq_true rfl, Nat.le_of_ble_eq_true rfl⟩) hP hD hS hA rfl hl.1 rfl (Nat.le_of_ble_eq_true rfl) (MC := 1700) ⟨rfl, rfl⟩ (46 * d + 4) (by omega) (by omega) dL_undone_385 (fun u H locs cells slots hc hs hP hD hS => ?_)
          refine lv_aload_n hx hb dL_undone_388 rfl (lv_at hl 1 rfl) ?_
          refine lv_iload hx hb dL_undone_389 (lv_at hl 0 rfl) ?_
          refine c_lald (Wc := [OW cy a V2 u, [(q, .inl (cy 5, 9, .inr (.inl g)))]]) (v := sumF V2.σ) hx hb hK hP 1 rfl (dn - (i + 1)) rfl (by omega) (by omega) (by rw [hgS _ (by omega), hB2.1]) dL_undone_391 ?_
          refine W.lcmp hx hb dL_undone_392 ?_
          refine lv_t0 (show (lg_cmp (sumF V2.σ) (sumF V2.σ)) = 0 from lg_self _) ?_
          refine lv_if_eq (tgt := 398) hx hb dL_undone_393 (by decide) (fun _ => ?_) (fun c9 => absurd (by decide) c9)
          refine lv_iinc (v := (nI (dn - (i + 1))) + (-1)) (lv' := [(4, .int ((nI (dn - (i + 1))) + (-1))), (2, .ref q), (1, .ref a.aX), (0, .ref b)]) hx hb dL_undone_398 hl (k := 0) rfl rfl (by decide) rfl (fun ls hl => ?_)
          refine lv_goto (tgt := 372) hx hb dL_undone_401 (by decide) ?_
          have e372_4 : nI (dn - (i + 1)) - 1 = (nI (dn - (i + 1))) + (-1) := (Int32.sub_eq_add_neg _ _)
          exact ih2 (i + 1) (by omega) _ V2 _ _ _ _ hB2 (by omega) (by omega) hP hD hS ls (by rw [e372_4]; exact lv_sub hl [0, 1, 2, 3] rfl)
      have e372_4 : nI (dn - 0) - 1 = (nI dn) - 1 := (by rw [Nat.sub_zero])
      exact L372 (dn) 0 (by omega) _ V1 _ _ _ _ (by rw [Nat.sub_zero]; exact hU.back (Nat.le_refl 7)) (by omega) (by omega) hP hD hS ls (by rw [e372_4]; exact lv_sub hl [0, 2, 3, 4] rfl)
    | succ d ih =>
      intro k hk u V1 dn g S H locs cells slots hU hc hs hP hD hS ls hl
      have hk9 : k < 7 := by omega
      refine lv_iload hx hb dL_undone_10 (lv_at hl 0 rfl) ?_
      refine lv_bipush (v := 7) hx hb dL_undone_12 (by decide) ?_
      refine lv_icmp_ge (tgt := 367) hx hb dL_undone_14 (by decide) (fun c9 => absurd c9 (fun q => absurd ((m_leN (a := 7) (b := k) rfl rfl (by omega) (by omega)).mp q) (by omega))) (fun _ => ?_)
      refine lv_aload_n hx hb dL_undone_17 rfl (lv_at hl 4 rfl) ?_
      refine lv_bipush (v := 13) hx hb dL_undone_18 (by decide) ?_
      refine lv_iload hx hb dL_undone_20 (lv_at hl 0 rfl) ?_
      refine lv_iadd hx hb dL_undone_22 ?_
      refine lv_t0 (show (13 + (nI k)) = nI (k + 13) from (Int32.add_comm 13 (nI (k))).trans (nI_add (k) 13)) ?_
      refine m_ro (va_runS S9 (n_cell l G cy b L xs (k + 13) (by omega)) (bigS 2 hts (big_at 5 9 rfl) (big_at 0 2 rfl) (big_at 5 11 rfl) (big_at 5 10 rfl) rfl rfl (by decide +kernel) ⟨Nat.le_of_ble_eq_true rfl, Nat.le_of_ble_eq_true rfl⟩) ⟨fun b2 U g mk q => ⟨q.1, cell_blind U g mk b2 q.2⟩, fun U hU hW => ⟨rfl, cell_at hX hbl hbA hL hS U hU hW⟩⟩ (g := F0 m _ ls _) rfl rfl hl.1 rfl (lv_room (Nat.le_of_ble_eq_true rfl)) dL_undone_23 ⟨(show _ ≤ 1700 by omega), (show _ ≤ 64 * 1700 by omega)⟩) ?_
      refine lv_iconst (v := 1) hx hb dL_undone_26 (by decide) ?_
      obtain ⟨C1, hC1, eC1⟩ := ush_ex (cellF L xs (k + 13)) 1 1 (by decide) (by decide)
      refine lv_iushr (v := nI C1) hx hb dL_undone_27 eC1 ?_
      refine lv_istore (lv' := [(5, .int (nI C1)), (4, .int (nI k)), (3, .int (nI dn)), (2, .ref q), (1, .ref a.aX), (0, .ref b)]) hx hb dL_undone_28 hl (by decide) rfl (fun ls hl => ?_)
      refine lv_iload hx hb dL_undone_30 (lv_at hl 0 rfl) ?_
      refine lv_iconst (v := 4) hx hb dL_undone_32 (by decide) ?_
      refine lv_iushr (v := nI (C1 / 16)) hx hb dL_undone_33 (pk_ushrN (by omega) _ 4 (by decide)) ?_
      refine lv_istore (lv' := [(6, .int (nI (C1 / 16))), (5, .int (nI C1)), (4, .int (nI k)), (3, .int (nI dn)), (2, .ref q), (1, .ref a.aX), (0, .ref b)]) hx hb dL_undone_34 hl (by decide) rfl (fun ls hl => ?_)
      refine lv_aload_n hx hb dL_undone_36 rfl (lv_at hl 4 rfl) ?_
      refine lv_iload_n hx hb dL_undone_37 rfl (lv_at hl 3 rfl) ?_
      refine lv_aload_n hx hb dL_undone_38 rfl (lv_at hl 5 rfl) ?_
      have hd9 : dn < 9 := by have := hU.1; omega
      refine lq_S S9 hLF (n_sum l G cy kS vS a V1 (n0 + 300 * k) hl9 hU.2.1.1) (bigS 1 hts (big_at 45 17 rfl) (big_at 0 2 rfl) (big_at 45 19 rfl) (big_at 45 18 rfl) rfl rfl (by decide +kernel) ⟨Nat.le_of_ble_eq_true rfl, Nat.le_of_ble_eq_true rfl⟩) hP hD hS hA rfl hl.1 rfl (Nat.le_of_ble_eq_true rfl) (MC := 1700) ⟨rfl, rfl⟩ (180 * d + 465) (by omega) (by omega) dL_undone_39 (fun u H locs cells slots hc hs hP hD hS => ?_)
      refine c_last (Wc := [OW cy a V1 u, [(q, .inl (cy 5, 9, .inr (.inl g)))]]) (Wn := [OW cy a V1 u, [(q, .inl (cy 5, 9, .inr (.inl (vp_updL g dn (sumF V1.σ)))))]]) hx hb hK hP hD hS 1 rfl dn rfl hd9 (by omega) rfl dL_undone_42 (fun H locs hP hD hS => ?_)
      have J330 : ∀ (V3 : OV) (r : Int32) (u : OU) (H : Heap) (locs : List Loc) (cells slots : Nat), (SR (n0 + 300 * k) V1 False (fun _ => True) V3 (.int r)) → cells + (180 * d + 380) ≤ 1700 → slots + 64 * (180 * d + 380) ≤ 64 * 1700 → va_P G vwCl (fl [OW cy a V3 u, [(q, .inl (cy 5, 9, .inr (.inl (vp_updL g dn (sumF V1.σ)))))]]) H → va_D (va_A (OW cy a V u0) s.heap.size) (fl [OW cy a V3 u, [(q, .inl (cy 5, 9, .inr (.inl (vp_updL g dn (sumF V1.σ)))))]]) → va_S (va_A (OW cy a V u0) s.heap.size) s.heap H locs → ∀ ls : Array Slot, lv_has ls 8 [(7, .int r), (4, .int (nI k)), (3, .int (nI dn)), (2, .ref q), (1, .ref a.aX), (0, .ref b)] → W p l e ({ frames := 15, cells := 1700, slots := 64 * 1700, locals := 500 } : Room) s m ([.ref b, .ref a.aX] : List Value).toArray below meth cq H locs cells slots (lxZ below ([.ref b, .ref a.aX] : List Value).toArray s G cy a V u0 ((fun V2 r2 => r2 = .int 1)) 1700) (F0 m 330 ls []) := by
        intro V3 r u H locs cells slots hS3 hc hs hP hD hS ls hl
        obtain ⟨r5, er, hG3, -, hS4⟩ := hS3
        have er : r = r5 := Value.int.inj er
        subst er
        rcases hS4 with ⟨hr9, h1, h2, h3, -⟩ | ⟨hr9, h0, h1, h2, h3, -⟩
        · have hU9 := hU.yes hk9 hG3 h1 h2 h3
          clear h1 h2 h3
          refine lv_iload hx hb dL_undone_330 (lv_at hl 0 rfl) ?_
          refine lv_if_ge (tgt := 348) hx hb dL_undone_332 (by decide) (fun _ => ?_) (fun c9 => absurd (Int32.not_lt.mp hr9) c9)
          refine lv_iload_n hx hb dL_undone_348 rfl (lv_at hl 2 rfl) ?_
          refine lv_iload hx hb dL_undone_349 (lv_at hl 0 rfl) ?_
          refine lv_if_ge (tgt := 358) hx hb dL_undone_351 (by decide) (fun _ => ?_) (fun c9 => absurd (Int32.not_lt.mp hr9) c9)
          refine lv_iconst (v := 1) hx hb dL_undone_358 (by decide) ?_
          refine lv_iadd hx hb dL_undone_359 ?_
          refine lv_t0 (show ((nI dn) + 1) = nI (dn + 1) from nI_1 dn) ?_
          refine lv_istore_n (lv' := [(3, .int (nI (dn + 1))), (7, .int r), (4, .int (nI k)), (2, .ref q), (1, .ref a.aX), (0, .ref b)]) hx hb dL_undone_360 rfl hl (by decide) rfl (fun ls hl => ?_)
          refine lv_iinc (v := nI (k + 1)) (lv' := [(4, .int (nI (k + 1))), (3, .int (nI (dn + 1))), (7, .int r), (2, .ref q), (1, .ref a.aX), (0, .ref b)]) hx hb dL_undone_361 hl (k := 2) rfl (m_inc _) (by decide) rfl (fun ls hl => ?_)
          refine lv_goto (tgt := 10) hx hb dL_undone_364 (by decide) ?_
          exact ih (k + 1) (by omega) _ V3 (dn + 1) (vp_updL g dn (sumF V1.σ)) (fun j => if j = dn + 1 then OV.σ V3 else S j) _ _ _ _ hU9 (le_dn hc (by decide)) (le_dn2 hs (by decide)) hP hD hS ls (lv_sub hl [0, 1, 3, 4, 5] rfl)
        · have hU9 := hU.no hG3 h0 h1 h2 h3
          clear h1 h2 h3
          refine lv_iload hx hb dL_undone_330 (lv_at hl 0 rfl) ?_
          refine lv_if_ge (tgt := 348) hx hb dL_undone_332 (by decide) (fun c9 => absurd c9 (Int32.not_le.mpr hr9)) (fun _ => ?_)
          refine lv_aload_n hx hb dL_undone_335 rfl (lv_at hl 4 rfl) ?_
          refine lq_S S9 hLF (n_sum l G cy kS vS a V3 (n0 + 300 * k + 300) hl9 hG3.1) (bigS 1 hts (big_at 45 17 rfl) (big_at 0 2 rfl) (big_at 45 19 rfl) (big_at 45 18 rfl) rfl rfl (by decide +kernel) ⟨Nat.le_of_ble_eq_true rfl, Nat.le_of_ble_eq_true rfl⟩) hP hD hS hA rfl hl.1 rfl (Nat.le_of_ble_eq_true rfl) (MC := 1700) ⟨rfl, rfl⟩ (180 * d + 335) (by omega) (by omega) dL_undone_336 (fun u H locs cells slots hc hs hP hD hS => ?_)
          refine lv_aload_n hx hb dL_undone_339 rfl (lv_at hl 3 rfl) ?_
          refine lv_iload_n hx hb dL_undone_340 rfl (lv_at hl 2 rfl) ?_
          refine c_lald (Wc := [OW cy a V3 u, [(q, .inl (cy 5, 9, .inr (.inl (vp_updL g dn (sumF V1.σ)))))]]) (v := sumF V1.σ) hx hb hK hP 1 rfl dn rfl hd9 (by omega) (if_pos rfl) dL_undone_341 ?_
          refine W.lcmp hx hb dL_undone_342 ?_
          refine lv_t0 (show (lg_cmp (sumF V3.σ) (sumF V1.σ)) = 0 from by rw [h0]; exact lg_self _) ?_
          refine lv_if_eq (tgt := 348) hx hb dL_undone_343 (by decide) (fun _ => ?_) (fun c9 => absurd (by decide) c9)
          refine lv_iload_n hx hb dL_undone_348 rfl (lv_at hl 2 rfl) ?_
          refine lv_iload hx hb dL_undone_349 (lv_at hl 0 rfl) ?_
          refine lv_if_ge (tgt := 358) hx hb dL_undone_351 (by decide) (fun c9 => absurd c9 (Int32.not_le.mpr hr9)) (fun _ => ?_)
          refine lv_iconst (v := 0) hx hb dL_undone_354 (by decide) ?_
          refine lv_goto (tgt := 359) hx hb dL_undone_355 (by decide) ?_
          refine lv_iadd hx hb dL_undone_359 ?_
          refine lv_t0 (show ((nI dn) + 0) = nI dn from Int32.add_zero _) ?_
          refine lv_istore_n (lv' := [(3, .int (nI dn)), (7, .int r), (4, .int (nI k)), (2, .ref q), (1, .ref a.aX), (0, .ref b)]) hx hb dL_undone_360 rfl hl (by decide) rfl (fun ls hl => ?_)
          refine lv_iinc (v := nI (k + 1)) (lv' := [(4, .int (nI (k + 1))), (3, .int (nI dn)), (7, .int r), (2, .ref q), (1, .ref a.aX), (0, .ref b)]) hx hb dL_undone_361 hl (k := 2) rfl (m_inc _) (by decide) rfl (fun ls hl => ?_)
          refine lv_goto (tgt := 10) hx hb dL_undone_364 (by decide) ?_
          exact ih (k + 1) (by omega) _ V3 dn (vp_updL g dn (sumF V1.σ)) S _ _ _ _ hU9 (le_dn hc (by decide)) (le_dn2 hs (by decide)) hP hD hS ls (lv_sub hl [0, 1, 3, 4, 5] rfl)
      refine lv_iload hx hb dL_undone_43 (lv_at hl 1 rfl) ?_
      refine lv_bipush (v := 9) hx hb dL_undone_45 (by decide) ?_
      refine lv_irem hx hb dL_undone_47 (by decide) ?_
      refine lv_t0 (show ((nI C1) - (nI C1) / 9 * 9) = nI (C1 % 9) from rem_n (by omega) (by decide) (by decide)) ?_
      rcases (show C1 % 9 = 0 ∨ C1 % 9 = 1 ∨ C1 % 9 = 2 ∨ C1 % 9 = 3 ∨ C1 % 9 = 4 ∨ C1 % 9 = 5 ∨ C1 % 9 = 6 ∨ C1 % 9 = 7 ∨ C1 % 9 = 8 by omega) with e9 | e9 | e9 | e9 | e9 | e9 | e9 | e9 | e9
      · rw [e9]
        refine lv_tableIn (off := 48) (tgt := 96) hx hb dL_undone_48 (by decide +kernel) (by decide +kernel) (by decide +kernel) (by decide) ?_
        refine lv_aload_n hx hb dL_undone_96 rfl (lv_at hl 5 rfl) ?_
        refine lx_SW S9 hLF (g_addBath l G cy kS vS a V1 (n0 + 300 * k)   hl9 hU.2.1 (by omega)) (bigSW 1 hts (big_at 5 13 rfl) (big_at 0 2 rfl) (big_at 5 15 rfl) (big_at 5 14 rfl) rfl rfl (by decide +kernel) ⟨Nat.le_of_ble_eq_true rfl, Nat.le_of_ble_eq_true rfl⟩) hP hD hS hA rfl hl.1 rfl (Nat.le_of_ble_eq_true rfl) (MC := 1700) ⟨rfl, rfl⟩ (180 * d + 464) (by omega) (by omega) dL_undone_97 (fun V2 r2 u H locs cells slots hR hc hs hP hD hS => ?_)
        have hP : va_P G vwCl (fl [OW cy a V2 u, [(q, .inl (cy 5, 9, .inr (.inl (vp_updL g dn (sumF V1.σ)))))]]) H := hP
        have hD : va_D (va_A (OW cy a V u0) s.heap.size) (fl [OW cy a V2 u, [(q, .inl (cy 5, 9, .inr (.inl (vp_updL g dn (sumF V1.σ)))))]]) := hD
        obtain ⟨r, e2, hR9⟩ := SR.int hR
        subst e2
        refine lv_istore (lv' := [(7, .int r), (6, .int (nI (C1 / 16))), (5, .int (nI C1)), (4, .int (nI k)), (3, .int (nI dn)), (2, .ref q), (1, .ref a.aX), (0, .ref b)]) hx hb dL_undone_100 hl (by decide) rfl (fun ls hl => ?_)
        refine lv_goto (tgt := 330) hx hb dL_undone_102 (by decide) ?_
        exact J330 V2 r _ _ _ _ _ hR9 (le_dn hc (by decide)) (le_dn2 hs (by decide)) hP hD hS ls (lv_sub hl [0, 3, 4, 5, 6, 7] rfl)
      · rw [e9]
        refine lv_tableIn (off := 57) (tgt := 105) hx hb dL_undone_48 (by decide +kernel) (by decide +kernel) (by decide +kernel) (by decide) ?_
        refine lv_aload_n hx hb dL_undone_105 rfl (lv_at hl 5 rfl) ?_
        refine lv_iload hx hb dL_undone_106 (lv_at hl 0 rfl) ?_
        refine lv_bipush (v := 6) hx hb dL_undone_108 (by decide) ?_
        refine lv_irem hx hb dL_undone_110 (by decide) ?_
        refine lv_t0 (show ((nI (C1 / 16)) - (nI (C1 / 16)) / 6 * 6) = nI ((C1 / 16) % 6) from rem_n (by omega) (by decide) (by decide)) ?_
        refine lv_iload hx hb dL_undone_111 (lv_at hl 0 rfl) ?_
        refine lv_iconst (v := 3) hx hb dL_undone_113 (by decide) ?_
        refine lv_iushr (v := nI ((C1 / 16) / 8)) hx hb dL_undone_114 (pk_ushrN (by omega) _ 3 (by decide)) ?_
        refine lv_iconst (v := 4) hx hb dL_undone_115 (by decide) ?_
        refine lv_irem hx hb dL_undone_116 (by decide) ?_
        refine lv_t0 (show ((nI ((C1 / 16) / 8)) - (nI ((C1 / 16) / 8)) / 4 * 4) = nI (((C1 / 16) / 8) % 4) from rem_n (by omega) (by decide) (by decide)) ?_
        refine lv_iload hx hb dL_undone_117 (lv_at hl 0 rfl) ?_
        refine lv_iconst (v := 5) hx hb dL_undone_119 (by decide) ?_
        refine lv_iushr (v := nI ((C1 / 16) / 32)) hx hb dL_undone_120 (pk_ushrN (by omega) _ 5 (by decide)) ?_
        refine lv_bipush (v := 22) hx hb dL_undone_121 (by decide) ?_
        refine lv_irem hx hb dL_undone_123 (by decide) ?_
        refine lv_t0 (show ((nI ((C1 / 16) / 32)) - (nI ((C1 / 16) / 32)) / 22 * 22) = nI (((C1 / 16) / 32) % 22) from rem_n (by omega) (by decide) (by decide)) ?_
        refine lx_SW S9 hLF (g_runTap l G cy kS vS a V1 (n0 + 300 * k) (nI ((C1 / 16) % 6)) (nI (((C1 / 16) / 8) % 4)) (nI (((C1 / 16) / 32) % 22))  hl9 hU.2.1 (by omega)) (bigSW 4 hts (big_at 8 0 rfl) (big_at 0 2 rfl) (big_at 8 2 rfl) (big_at 8 1 rfl) rfl rfl (by decide +kernel) ⟨Nat.le_of_ble_eq_true rfl, Nat.le_of_ble_eq_true rfl⟩) hP hD hS hA rfl hl.1 rfl (Nat.le_of_ble_eq_true rfl) (MC := 1700) ⟨rfl, rfl⟩ (180 * d + 464) (by omega) (by omega) dL_undone_124 (fun V2 r2 u H locs cells slots hR hc hs hP hD hS => ?_)
        have hP : va_P G vwCl (fl [OW cy a V2 u, [(q, .inl (cy 5, 9, .inr (.inl (vp_updL g dn (sumF V1.σ)))))]]) H := hP
        have hD : va_D (va_A (OW cy a V u0) s.heap.size) (fl [OW cy a V2 u, [(q, .inl (cy 5, 9, .inr (.inl (vp_updL g dn (sumF V1.σ)))))]]) := hD
        obtain ⟨r, e2, hR9⟩ := SR.int hR
        subst e2
        refine lv_istore (lv' := [(7, .int r), (6, .int (nI (C1 / 16))), (5, .int (nI C1)), (4, .int (nI k)), (3, .int (nI dn)), (2, .ref q), (1, .ref a.aX), (0, .ref b)]) hx hb dL_undone_127 hl (by decide) rfl (fun ls hl => ?_)
        refine lv_goto (tgt := 330) hx hb dL_undone_129 (by decide) ?_
        exact J330 V2 r _ _ _ _ _ hR9 (le_dn hc (by decide)) (le_dn2 hs (by decide)) hP hD hS ls (lv_sub hl [0, 3, 4, 5, 6, 7] rfl)
      · rw [e9]
        refine lv_tableIn (off := 84) (tgt := 132) hx hb dL_undone_48 (by decide +kernel) (by decide +kernel) (by decide +kernel) (by decide) ?_
        refine lv_aload_n hx hb dL_undone_132 rfl (lv_at hl 5 rfl) ?_
        refine lv_iload hx hb dL_undone_133 (lv_at hl 0 rfl) ?_
        refine lv_bipush (v := 6) hx hb dL_undone_135 (by decide) ?_
        refine lv_irem hx hb dL_undone_137 (by decide) ?_
        refine lv_t0 (show ((nI (C1 / 16)) - (nI (C1 / 16)) / 6 * 6) = nI ((C1 / 16) % 6) from rem_n (by omega) (by decide) (by decide)) ?_
        refine lv_iload hx hb dL_undone_138 (lv_at hl 1 rfl) ?_
        refine lv_bipush (v := 18) hx hb dL_undone_140 (by decide) ?_
        refine lv_irem hx hb dL_undone_142 (by decide) ?_
        refine lv_t0 (show ((nI C1) - (nI C1) / 18 * 18) = nI (C1 % 18) from rem_n (by omega) (by decide) (by decide)) ?_
        refine lv_bipush (v := 9) hx hb dL_undone_143 (by decide) ?_
        refine lv_icmp_ge (tgt := 152) hx hb dL_undone_145 (by decide) (fun c9 => ?_) (fun c9 => ?_)
        · refine lv_iconst (v := 0) hx hb dL_undone_152 (by decide) ?_
          refine lx_SW S9 hLF (g_setPlug l G cy kS vS a V1 (n0 + 300 * k) (nI ((C1 / 16) % 6)) 0 rfl hl9 hU.2.1 (by omega)) (bigSW 3 hts (big_at 10 1 rfl) (big_at 0 2 rfl) (big_at 10 3 rfl) (big_at 10 2 rfl) rfl rfl (by decide +kernel) ⟨Nat.le_of_ble_eq_true rfl, Nat.le_of_ble_eq_true rfl⟩) hP hD hS hA rfl hl.1 rfl (Nat.le_of_ble_eq_true rfl) (MC := 1700) ⟨rfl, rfl⟩ (180 * d + 464) (by omega) (by omega) dL_undone_153 (fun V2 r2 u H locs cells slots hR hc hs hP hD hS => ?_)
          have hP : va_P G vwCl (fl [OW cy a V2 u, [(q, .inl (cy 5, 9, .inr (.inl (vp_updL g dn (sumF V1.σ)))))]]) H := hP
          have hD : va_D (va_A (OW cy a V u0) s.heap.size) (fl [OW cy a V2 u, [(q, .inl (cy 5, 9, .inr (.inl (vp_updL g dn (sumF V1.σ)))))]]) := hD
          obtain ⟨r, e2, hR9⟩ := SR.int hR
          subst e2
          refine lv_istore (lv' := [(7, .int r), (6, .int (nI (C1 / 16))), (5, .int (nI C1)), (4, .int (nI k)), (3, .int (nI dn)), (2, .ref q), (1, .ref a.aX), (0, .ref b)]) hx hb dL_undone_156 hl (by decide) rfl (fun ls hl => ?_)
          refine lv_goto (tgt := 330) hx hb dL_undone_158 (by decide) ?_
          exact J330 V2 r _ _ _ _ _ hR9 (le_dn hc (by decide)) (le_dn2 hs (by decide)) hP hD hS ls (lv_sub hl [0, 3, 4, 5, 6, 7] rfl)
        · refine lv_iconst (v := 1) hx hb dL_undone_148 (by decide) ?_
          refine lv_goto (tgt := 153) hx hb dL_undone_149 (by decide) ?_
          refine lx_SW S9 hLF (g_setPlug l G cy kS vS a V1 (n0 + 300 * k) (nI ((C1 / 16) % 6)) 1 rfl hl9 hU.2.1 (by omega)) (bigSW 3 hts (big_at 10 1 rfl) (big_at 0 2 rfl) (big_at 10 3 rfl) (big_at 10 2 rfl) rfl rfl (by decide +kernel) ⟨Nat.le_of_ble_eq_true rfl, Nat.le_of_ble_eq_true rfl⟩) hP hD hS hA rfl hl.1 rfl (Nat.le_of_ble_eq_true rfl) (MC := 1700) ⟨rfl, rfl⟩ (180 * d + 464) (by omega) (by omega) dL_undone_153 (fun V2 r2 u H locs cells slots hR hc hs hP hD hS => ?_)
          have hP : va_P G vwCl (fl [OW cy a V2 u, [(q, .inl (cy 5, 9, .inr (.inl (vp_updL g dn (sumF V1.σ)))))]]) H := hP
          have hD : va_D (va_A (OW cy a V u0) s.heap.size) (fl [OW cy a V2 u, [(q, .inl (cy 5, 9, .inr (.inl (vp_updL g dn (sumF V1.σ)))))]]) := hD
          obtain ⟨r, e2, hR9⟩ := SR.int hR
          subst e2
          refine lv_istore (lv' := [(7, .int r), (6, .int (nI (C1 / 16))), (5, .int (nI C1)), (4, .int (nI k)), (3, .int (nI dn)), (2, .ref q), (1, .ref a.aX), (0, .ref b)]) hx hb dL_undone_156 hl (by decide) rfl (fun ls hl => ?_)
          refine lv_goto (tgt := 330) hx hb dL_undone_158 (by decide) ?_
          exact J330 V2 r _ _ _ _ _ hR9 (le_dn hc (by decide)) (le_dn2 hs (by decide)) hP hD hS ls (lv_sub hl [0, 3, 4, 5, 6, 7] rfl)
      · rw [e9]
        refine lv_tableIn (off := 113) (tgt := 161) hx hb dL_undone_48 (by decide +kernel) (by decide +kernel) (by decide +kernel) (by decide) ?_
        refine lv_aload_n hx hb dL_undone_161 rfl (lv_at hl 5 rfl) ?_
        refine lv_iload hx hb dL_undone_162 (lv_at hl 0 rfl) ?_
        refine lv_bipush (v := 6) hx hb dL_undone_164 (by decide) ?_
        refine lv_irem hx hb dL_undone_166 (by decide) ?_
        refine lv_t0 (show ((nI (C1 / 16)) - (nI (C1 / 16)) / 6 * 6) = nI ((C1 / 16) % 6) from rem_n (by omega) (by decide) (by decide)) ?_
        refine lv_iload hx hb dL_undone_167 (lv_at hl 0 rfl) ?_
        refine lv_iconst (v := 3) hx hb dL_undone_169 (by decide) ?_
        refine lv_iushr (v := nI ((C1 / 16) / 8)) hx hb dL_undone_170 (pk_ushrN (by omega) _ 3 (by decide)) ?_
        refine lv_bipush (v := 6) hx hb dL_undone_171 (by decide) ?_
        refine lv_irem hx hb dL_undone_173 (by decide) ?_
        refine lv_t0 (show ((nI ((C1 / 16) / 8)) - (nI ((C1 / 16) / 8)) / 6 * 6) = nI (((C1 / 16) / 8) % 6) from rem_n (by omega) (by decide) (by decide)) ?_
        refine lv_iload hx hb dL_undone_174 (lv_at hl 0 rfl) ?_
        refine lv_bipush (v := 6) hx hb dL_undone_176 (by decide) ?_
        refine lv_iushr (v := nI ((C1 / 16) / 64)) hx hb dL_undone_178 (pk_ushrN (by omega) _ 6 (by decide)) ?_
        refine lv_bipush (v := 30) hx hb dL_undone_179 (by decide) ?_
        refine lv_irem hx hb dL_undone_181 (by decide) ?_
        refine lv_t0 (show ((nI ((C1 / 16) / 64)) - (nI ((C1 / 16) / 64)) / 30 * 30) = nI (((C1 / 16) / 64) % 30) from rem_n (by omega) (by decide) (by decide)) ?_
        refine lx_SW S9 hLF (g_pour l G cy kS vS a V1 (n0 + 300 * k) (nI ((C1 / 16) % 6)) (nI (((C1 / 16) / 8) % 6)) (nI (((C1 / 16) / 64) % 30))  hl9 hU.2.1 (by omega)) (bigSW 4 hts (big_at 12 15 rfl) (big_at 0 2 rfl) (big_at 12 17 rfl) (big_at 12 16 rfl) rfl rfl (by decide +kernel) ⟨Nat.le_of_ble_eq_true rfl, Nat.le_of_ble_eq_true rfl⟩) hP hD hS hA rfl hl.1 rfl (Nat.le_of_ble_eq_true rfl) (MC := 1700) ⟨rfl, rfl⟩ (180 * d + 464) (by omega) (by omega) dL_undone_182 (fun V2 r2 u H locs cells slots hR hc hs hP hD hS => ?_)
        have hP : va_P G vwCl (fl [OW cy a V2 u, [(q, .inl (cy 5, 9, .inr (.inl (vp_updL g dn (sumF V1.σ)))))]]) H := hP
        have hD : va_D (va_A (OW cy a V u0) s.heap.size) (fl [OW cy a V2 u, [(q, .inl (cy 5, 9, .inr (.inl (vp_updL g dn (sumF V1.σ)))))]]) := hD
        obtain ⟨r, e2, hR9⟩ := SR.int hR
        subst e2
        refine lv_istore (lv' := [(7, .int r), (6, .int (nI (C1 / 16))), (5, .int (nI C1)), (4, .int (nI k)), (3, .int (nI dn)), (2, .ref q), (1, .ref a.aX), (0, .ref b)]) hx hb dL_undone_185 hl (by decide) rfl (fun ls hl => ?_)
        refine lv_goto (tgt := 330) hx hb dL_undone_187 (by decide) ?_
        exact J330 V2 r _ _ _ _ _ hR9 (le_dn hc (by decide)) (le_dn2 hs (by decide)) hP hD hS ls (lv_sub hl [0, 3, 4, 5, 6, 7] rfl)
      · rw [e9]
        refine lv_tableIn (off := 142) (tgt := 190) hx hb dL_undone_48 (by decide +kernel) (by decide +kernel) (by decide +kernel) (by decide) ?_
        refine lv_aload_n hx hb dL_undone_190 rfl (lv_at hl 5 rfl) ?_
        refine lv_iload hx hb dL_undone_191 (lv_at hl 0 rfl) ?_
        refine lv_bipush (v := 6) hx hb dL_undone_193 (by decide) ?_
        refine lv_irem hx hb dL_undone_195 (by decide) ?_
        refine lv_t0 (show ((nI (C1 / 16)) - (nI (C1 / 16)) / 6 * 6) = nI ((C1 / 16) % 6) from rem_n (by omega) (by decide) (by decide)) ?_
        refine lv_iload hx hb dL_undone_196 (lv_at hl 0 rfl) ?_
        refine lv_iconst (v := 3) hx hb dL_undone_198 (by decide) ?_
        refine lv_iushr (v := nI ((C1 / 16) / 8)) hx hb dL_undone_199 (pk_ushrN (by omega) _ 3 (by decide)) ?_
        refine lv_bipush (v := 50) hx hb dL_undone_200 (by decide) ?_
        refine lv_irem hx hb dL_undone_202 (by decide) ?_
        refine lv_t0 (show ((nI ((C1 / 16) / 8)) - (nI ((C1 / 16) / 8)) / 50 * 50) = nI (((C1 / 16) / 8) % 50) from rem_n (by omega) (by decide) (by decide)) ?_
        refine lv_iload hx hb dL_undone_203 (lv_at hl 0 rfl) ?_
        refine lv_bipush (v := 9) hx hb dL_undone_205 (by decide) ?_
        refine lv_iushr (v := nI ((C1 / 16) / 512)) hx hb dL_undone_207 (pk_ushrN (by omega) _ 9 (by decide)) ?_
        refine lv_bipush (v := 101) hx hb dL_undone_208 (by decide) ?_
        refine lv_irem hx hb dL_undone_210 (by decide) ?_
        refine lv_t0 (show ((nI ((C1 / 16) / 512)) - (nI ((C1 / 16) / 512)) / 101 * 101) = nI (((C1 / 16) / 512) % 101) from rem_n (by omega) (by decide) (by decide)) ?_
        refine lx_SW S9 hLF (g_addDuck l G cy kS vS a V1 (n0 + 300 * k) (nI ((C1 / 16) % 6)) (nI (((C1 / 16) / 8) % 50)) (nI (((C1 / 16) / 512) % 101))  hl9 hU.2.1 (by omega)) (bigSW 4 hts (big_at 11 18 rfl) (big_at 0 2 rfl) (big_at 11 20 rfl) (big_at 11 19 rfl) rfl rfl (by decide +kernel) ⟨Nat.le_of_ble_eq_true rfl, Nat.le_of_ble_eq_true rfl⟩) hP hD hS hA rfl hl.1 rfl (Nat.le_of_ble_eq_true rfl) (MC := 1700) ⟨rfl, rfl⟩ (180 * d + 464) (by omega) (by omega) dL_undone_211 (fun V2 r2 u H locs cells slots hR hc hs hP hD hS => ?_)
        have hP : va_P G vwCl (fl [OW cy a V2 u, [(q, .inl (cy 5, 9, .inr (.inl (vp_updL g dn (sumF V1.σ)))))]]) H := hP
        have hD : va_D (va_A (OW cy a V u0) s.heap.size) (fl [OW cy a V2 u, [(q, .inl (cy 5, 9, .inr (.inl (vp_updL g dn (sumF V1.σ)))))]]) := hD
        obtain ⟨r, e2, hR9⟩ := SR.int hR
        subst e2
        refine lv_istore (lv' := [(7, .int r), (6, .int (nI (C1 / 16))), (5, .int (nI C1)), (4, .int (nI k)), (3, .int (nI dn)), (2, .ref q), (1, .ref a.aX), (0, .ref b)]) hx hb dL_undone_214 hl (by decide) rfl (fun ls hl => ?_)
        refine lv_goto (tgt := 330) hx hb dL_undone_216 (by decide) ?_
        exact J330 V2 r _ _ _ _ _ hR9 (le_dn hc (by decide)) (le_dn2 hs (by decide)) hP hD hS ls (lv_sub hl [0, 3, 4, 5, 6, 7] rfl)
      · rw [e9]
        refine lv_tableIn (off := 171) (tgt := 219) hx hb dL_undone_48 (by decide +kernel) (by decide +kernel) (by decide +kernel) (by decide) ?_
        refine lv_aload_n hx hb dL_undone_219 rfl (lv_at hl 5 rfl) ?_
        refine lv_iload hx hb dL_undone_220 (lv_at hl 0 rfl) ?_
        refine lv_bipush (v := 6) hx hb dL_undone_222 (by decide) ?_
        refine lv_irem hx hb dL_undone_224 (by decide) ?_
        refine lv_t0 (show ((nI (C1 / 16)) - (nI (C1 / 16)) / 6 * 6) = nI ((C1 / 16) % 6) from rem_n (by omega) (by decide) (by decide)) ?_
        refine lx_SW S9 hLF (g_join l G cy kS vS a V1 (n0 + 300 * k) (nI ((C1 / 16) % 6))  hl9 hU.2.1 (by omega)) (bigSW 2 hts (big_at 10 17 rfl) (big_at 0 2 rfl) (big_at 10 19 rfl) (big_at 10 18 rfl) rfl rfl (by decide +kernel) ⟨Nat.le_of_ble_eq_true rfl, Nat.le_of_ble_eq_true rfl⟩) hP hD hS hA rfl hl.1 rfl (Nat.le_of_ble_eq_true rfl) (MC := 1700) ⟨rfl, rfl⟩ (180 * d + 464) (by omega) (by omega) dL_undone_225 (fun V2 r2 u H locs cells slots hR hc hs hP hD hS => ?_)
        have hP : va_P G vwCl (fl [OW cy a V2 u, [(q, .inl (cy 5, 9, .inr (.inl (vp_updL g dn (sumF V1.σ)))))]]) H := hP
        have hD : va_D (va_A (OW cy a V u0) s.heap.size) (fl [OW cy a V2 u, [(q, .inl (cy 5, 9, .inr (.inl (vp_updL g dn (sumF V1.σ)))))]]) := hD
        obtain ⟨r, e2, hR9⟩ := SR.int hR
        subst e2
        refine lv_istore (lv' := [(7, .int r), (6, .int (nI (C1 / 16))), (5, .int (nI C1)), (4, .int (nI k)), (3, .int (nI dn)), (2, .ref q), (1, .ref a.aX), (0, .ref b)]) hx hb dL_undone_228 hl (by decide) rfl (fun ls hl => ?_)
        refine lv_goto (tgt := 330) hx hb dL_undone_230 (by decide) ?_
        exact J330 V2 r _ _ _ _ _ hR9 (le_dn hc (by decide)) (le_dn2 hs (by decide)) hP hD hS ls (lv_sub hl [0, 3, 4, 5, 6, 7] rfl)
      · rw [e9]
        refine lv_tableIn (off := 185) (tgt := 233) hx hb dL_undone_48 (by decide +kernel) (by decide +kernel) (by decide +kernel) (by decide) ?_
        refine lv_aload_n hx hb dL_undone_233 rfl (lv_at hl 5 rfl) ?_
        refine lv_iload hx hb dL_undone_234 (lv_at hl 0 rfl) ?_
        refine lv_bipush (v := 6) hx hb dL_undone_236 (by decide) ?_
        refine lv_irem hx hb dL_undone_238 (by decide) ?_
        refine lv_t0 (show ((nI (C1 / 16)) - (nI (C1 / 16)) / 6 * 6) = nI ((C1 / 16) % 6) from rem_n (by omega) (by decide) (by decide)) ?_
        refine lx_SW S9 hLF (g_leave l G cy kS vS a V1 (n0 + 300 * k) (nI ((C1 / 16) % 6))  hl9 hU.2.1 (by omega)) (bigSW 2 hts (big_at 47 3 rfl) (big_at 0 2 rfl) (big_at 47 5 rfl) (big_at 47 4 rfl) rfl rfl (by decide +kernel) ⟨Nat.le_of_ble_eq_true rfl, Nat.le_of_ble_eq_true rfl⟩) hP hD hS hA rfl hl.1 rfl (Nat.le_of_ble_eq_true rfl) (MC := 1700) ⟨rfl, rfl⟩ (180 * d + 464) (by omega) (by omega) dL_undone_239 (fun V2 r2 u H locs cells slots hR hc hs hP hD hS => ?_)
        have hP : va_P G vwCl (fl [OW cy a V2 u, [(q, .inl (cy 5, 9, .inr (.inl (vp_updL g dn (sumF V1.σ)))))]]) H := hP
        have hD : va_D (va_A (OW cy a V u0) s.heap.size) (fl [OW cy a V2 u, [(q, .inl (cy 5, 9, .inr (.inl (vp_updL g dn (sumF V1.σ)))))]]) := hD
        obtain ⟨r, e2, hR9⟩ := SR.int hR
        subst e2
        refine lv_istore (lv' := [(7, .int r), (6, .int (nI (C1 / 16))), (5, .int (nI C1)), (4, .int (nI k)), (3, .int (nI dn)), (2, .ref q), (1, .ref a.aX), (0, .ref b)]) hx hb dL_undone_242 hl (by decide) rfl (fun ls hl => ?_)
        refine lv_goto (tgt := 330) hx hb dL_undone_244 (by decide) ?_
        exact J330 V2 r _ _ _ _ _ hR9 (le_dn hc (by decide)) (le_dn2 hs (by decide)) hP hD hS ls (lv_sub hl [0, 3, 4, 5, 6, 7] rfl)
      · rw [e9]
        refine lv_tableIn (off := 199) (tgt := 247) hx hb dL_undone_48 (by decide +kernel) (by decide +kernel) (by decide +kernel) (by decide) ?_
        refine lv_aload_n hx hb dL_undone_247 rfl (lv_at hl 5 rfl) ?_
        refine lv_iload hx hb dL_undone_248 (lv_at hl 0 rfl) ?_
        refine lv_bipush (v := 22) hx hb dL_undone_250 (by decide) ?_
        refine lv_irem hx hb dL_undone_252 (by decide) ?_
        refine lv_t0 (show ((nI (C1 / 16)) - (nI (C1 / 16)) / 22 * 22) = nI ((C1 / 16) % 22) from rem_n (by omega) (by decide) (by decide)) ?_
        refine lx_SW S9 hLF (g_advance l G cy kS vS a V1 (n0 + 300 * k) (nI ((C1 / 16) % 22))  hl9 hU.2.1 (by omega)) (bigSW 2 hts (big_at 13 11 rfl) (big_at 0 2 rfl) (big_at 13 13 rfl) (big_at 13 12 rfl) rfl rfl (by decide +kernel) ⟨Nat.le_of_ble_eq_true rfl, Nat.le_of_ble_eq_true rfl⟩) hP hD hS hA rfl hl.1 rfl (Nat.le_of_ble_eq_true rfl) (MC := 1700) ⟨rfl, rfl⟩ (180 * d + 464) (by omega) (by omega) dL_undone_253 (fun V2 r2 u H locs cells slots hR hc hs hP hD hS => ?_)
        have hP : va_P G vwCl (fl [OW cy a V2 u, [(q, .inl (cy 5, 9, .inr (.inl (vp_updL g dn (sumF V1.σ)))))]]) H := hP
        have hD : va_D (va_A (OW cy a V u0) s.heap.size) (fl [OW cy a V2 u, [(q, .inl (cy 5, 9, .inr (.inl (vp_updL g dn (sumF V1.σ)))))]]) := hD
        obtain ⟨r, e2, hR9⟩ := SR.int hR
        subst e2
        refine lv_istore (lv' := [(7, .int r), (6, .int (nI (C1 / 16))), (5, .int (nI C1)), (4, .int (nI k)), (3, .int (nI dn)), (2, .ref q), (1, .ref a.aX), (0, .ref b)]) hx hb dL_undone_256 hl (by decide) rfl (fun ls hl => ?_)
        refine lv_goto (tgt := 330) hx hb dL_undone_258 (by decide) ?_
        exact J330 V2 r _ _ _ _ _ hR9 (le_dn hc (by decide)) (le_dn2 hs (by decide)) hP hD hS ls (lv_sub hl [0, 3, 4, 5, 6, 7] rfl)
      · rw [e9]
        refine lv_tableOut (tgt := 261) hx hb dL_undone_48 (Or.inr (by decide +kernel)) (by decide) ?_
        exact u_text l G cy kS vS a V u0 b hl9 p e s m below meth cq S9 hLF hA V1 (n0 + 300 * k) (by omega) hU.2.1 q (vp_updL g dn (sumF V1.σ)) C1 dn k (180 * d + 380) hC1 _ J330 _ _ _ _ _ hc hs hP hD hS ls (lv_sub hl [0, 1, 2, 3, 4, 5, 6] rfl)
  exact L10 (7) 0 (by omega) _ V 0 (fun _ => 0) (fun _ => V.σ) _ _ _ _ (⟨Nat.zero_le _, hG0.mono (by omega), rfl, fun j hj => absurd hj (Nat.not_lt_zero j), Nat.zero_le _, fun j _ => hG0.1.mono (by omega), fun j hj => absurd hj (Nat.not_lt_zero j)⟩) (by omega) (by omega) hP hD hS ls (lv_sub hl [0, 1, 2, 4, 3] rfl)
