/-! temperatures, litres, ranks -/
set_option maxRecDepth 100000 in
set_option maxHeartbeats 12000000 in
theorem n_warmed (l : Launch) (G : va_G) (cy : Nat → ClassId) (kS vS : Nat → Nat) (a : OA) (V : OV) (b : Nat) (L : Nat) (xs : Nat → Int32) (n0 : Nat) (hl9 : l.stackTraces = false) (hI : Inv n0 V.σ) (h1n : 0 < nB V.σ) : LZ l yL_warmed 14 400 130 G cy kS vS a V b L xs [.ref a.aX, .ref b] ((fun V2 r2 => V2 = V ∧ r2 = .int 1)) := by
  refine LZ.ofW (cc := cL_warmed) (maxL := 11) (ret := (some .boolean)) (by decide) (big_at 16 6 rfl) (Nat.le_of_ble_eq_true rfl) ?_
  intro p e s m below meth cq u0 S9 hr hlocks hPQ hXQ hD hS hA ls hl
  obtain ⟨hx, hb, hml, hown, hts⟩ := id S9
  have hLF := LF.mk hPQ
  have hK := hLF.1
  have hP : va_P G vwCl (fl [OW cy a V u0]) s.heap := hPQ.1.1
  have hD : va_D (va_A (OW cy a V u0) s.heap.size) (fl [OW cy a V u0]) := hD
  have hc : 0 + 130 ≤ 130 := Nat.le_of_ble_eq_true rfl
  have hs : 0 + 64 * 130 ≤ 64 * 130 := Nat.le_of_ble_eq_true rfl
  have hl : lv_has ls 11 [(0, .ref a.aX), (1, .ref b)] := hl
  obtain ⟨hX, hbl, hbw, hL⟩ := hXQ
  have hbA : ¬ va_A (OW cy a V u0) s.heap.size b := fun z => z.elim hbw (fun z => absurd hbl (Nat.not_lt.mpr z))
  have ho := hI.1
  have hN := ho.1
  have hwt := hI.2.1
  have hbd := hI.bd
  refine lv_aload_n hx hb dL_warmed_0 rfl (lv_at hl 0 rfl) ?_
  refine lb_S S9 hLF (n_baths l G cy kS vS a V n0 hI) (bigS 1 hts (big_at 16 8 rfl) (big_at 0 2 rfl) (big_at 16 10 rfl) (big_at 16 9 rfl) rfl rfl (by decide +kernel) ⟨Nat.le_of_ble_eq_true rfl, Nat.le_of_ble_eq_true rfl⟩) hP hD hS hA hl.1 (Nat.le_of_ble_eq_true rfl) (MC := 130) ⟨rfl, rfl⟩ (119) (by omega) (by omega) dL_warmed_1 (fun u ro ra H locs cells slots hc hs hP hD hS => ?_)
  refine lv_astore_n (lv' := [(2, .ref ro), (0, .ref a.aX), (1, .ref b)]) hx hb dL_warmed_4 rfl hl (by decide) rfl (fun ls hl => ?_)
  refine lv_aload_n hx hb dL_warmed_5 rfl (lv_at hl 0 rfl) ?_
  refine r_len (Wc := [OW cy a V u, rowsW cy ro ra V.σ]) hx hb hK hP 1 rfl dL_warmed_6 ?_
  refine lv_istore_n (lv' := [(3, .int (nI (nB V.σ))), (2, .ref ro), (0, .ref a.aX), (1, .ref b)]) hx hb dL_warmed_7 rfl hl (by decide) rfl (fun ls hl => ?_)
  refine lv_iconst (v := 0) hx hb dL_warmed_8 (by decide) ?_
  refine lv_istore (lv' := [(4, .int 0), (3, .int (nI (nB V.σ))), (2, .ref ro), (0, .ref a.aX), (1, .ref b)]) hx hb dL_warmed_9 hl (by decide) rfl (fun ls hl => ?_)
  have L11 : ∀ (d k : Nat), k + d = nB V.σ → ∀ (u : OU) (H : Heap) (locs : List Loc) (cells slots : Nat), cells + (12 * d + 40) ≤ 130 → slots + 64 * (12 * d + 40) ≤ 64 * 130 → va_P G vwCl (fl [OW cy a V u, rowsW cy ro ra V.σ]) H → va_D (va_A (OW cy a V u0) s.heap.size) (fl [OW cy a V u, rowsW cy ro ra V.σ]) → va_S (va_A (OW cy a V u0) s.heap.size) s.heap H locs → ∀ ls : Array Slot, lv_has ls 11 [(4, .int (nI k)), (3, .int (nI (nB V.σ))), (2, .ref ro), (1, .ref b), (0, .ref a.aX)] → W p l e ({ frames := 14, cells := 130, slots := 64 * 130, locals := 400 } : Room) s m ([.ref a.aX, .ref b] : List Value).toArray below meth cq H locs cells slots (lxZ below ([.ref a.aX, .ref b] : List Value).toArray s G cy a V u0 ((fun V2 r2 => V2 = V ∧ r2 = .int 1)) 130) (F0 m 11 ls []) := by
    intro d
    induction d with
    | zero =>
      intro k hk u H locs cells slots hc hs hP hD hS ls hl
      have hk9 : k = nB V.σ := by omega
      subst hk9
      refine lv_iload hx hb dL_warmed_11 (lv_at hl 0 rfl) ?_
      refine lv_iload_n hx hb dL_warmed_13 rfl (lv_at hl 1 rfl) ?_
      refine lv_icmp_ge (tgt := 363) hx hb dL_warmed_14 (by decide) (fun _ => ?_) (fun c9 => absurd (Int32.le_refl _) c9)
      refine lv_iconst (v := 1) hx hb dL_warmed_363 (by decide) ?_
      refine lv_istore (lv' := [(4, .int 1), (3, .int (nI (nB V.σ))), (2, .ref ro), (1, .ref b), (0, .ref a.aX)]) hx hb dL_warmed_364 hl (by decide) rfl (fun ls hl => ?_)
      have L366 : ∀ (d k : Nat), k + d = (nB V.σ - 1) → ∀ (u : OU) (H : Heap) (locs : List Loc) (cells slots : Nat), cells + (2 * d + 14) ≤ 130 → slots + 64 * (2 * d + 14) ≤ 64 * 130 → va_P G vwCl (fl [OW cy a V u, rowsW cy ro ra V.σ]) H → va_D (va_A (OW cy a V u0) s.heap.size) (fl [OW cy a V u, rowsW cy ro ra V.σ]) → va_S (va_A (OW cy a V u0) s.heap.size) s.heap H locs → ∀ ls : Array Slot, lv_has ls 11 [(4, .int (nI (k + 1))), (3, .int (nI (nB V.σ))), (2, .ref ro), (1, .ref b), (0, .ref a.aX)] → W p l e ({ frames := 14, cells := 130, slots := 64 * 130, locals := 400 } : Room) s m ([.ref a.aX, .ref b] : List Value).toArray below meth cq H locs cells slots (lxZ below ([.ref a.aX, .ref b] : List Value).toArray s G cy a V u0 ((fun V2 r2 => V2 = V ∧ r2 = .int 1)) 130) (F0 m 366 ls []) := by
        intro d
        induction d with
        | zero =>
          intro k hk u H locs cells slots hc hs hP hD hS ls hl
          have hk9 : k = (nB V.σ - 1) := by omega
          refine lv_iload hx hb dL_warmed_366 (lv_at hl 0 rfl) ?_
          refine lv_iload_n hx hb dL_warmed_368 rfl (lv_at hl 1 rfl) ?_
          refine lv_icmp_ge (tgt := 500) hx hb dL_warmed_369 (by decide) (fun _ => ?_) (fun c9 => absurd ((nI_leI (by omega) (by omega)).mpr (by omega)) c9)
          refine lv_aload_n hx hb dL_warmed_500 rfl (lv_at hl 4 rfl) ?_
          refine lv_iload_n hx hb dL_warmed_501 rfl (lv_at hl 1 rfl) ?_
          have ixn : ¬ inI (nI (nB V.σ)) (nI (nB V.σ)) = true := by simp [inI]
          have ixm : ¬ inI (-1) (nI (nB V.σ)) = true := by rw [inI_iff]; exact fun z => z.1 (by decide)
          refine lq_SW S9 hLF (q_byTemperature_x l G cy kS vS a V (nI (nB V.σ)) hl9 ho ixn) (bigSW 2 hts (big_at 20 8 rfl) (big_at 0 2 rfl) (big_at 20 10 rfl) (big_at 20 9 rfl) rfl rfl (by decide +kernel) ⟨Nat.le_of_ble_eq_true rfl, Nat.le_of_ble_eq_true rfl⟩) hP hD hS hA rfl hl.1 rfl (Nat.le_of_ble_eq_true rfl) (MC := 130) ⟨rfl, rfl⟩ (13) (by omega) (by omega) dL_warmed_502 (fun u H locs cells slots hc hs hP hD hS => ?_)
          refine lv_bipush (v := (-13)) hx hb dL_warmed_505 (by decide) ?_
          refine lv_icmp_ne (tgt := 637) hx hb dL_warmed_507 (by decide) (fun c9 => absurd (by decide) c9) (fun _ => ?_)
          refine lv_aload_n hx hb dL_warmed_510 rfl (lv_at hl 4 rfl) ?_
          refine lv_iconst (v := (-1)) hx hb dL_warmed_511 (by decide) ?_
          refine lq_SW S9 hLF (q_byTemperature_x l G cy kS vS a V (-1) hl9 ho ixm) (bigSW 2 hts (big_at 20 8 rfl) (big_at 0 2 rfl) (big_at 20 10 rfl) (big_at 20 9 rfl) rfl rfl (by decide +kernel) ⟨Nat.le_of_ble_eq_true rfl, Nat.le_of_ble_eq_true rfl⟩) hP hD hS hA rfl hl.1 rfl (Nat.le_of_ble_eq_true rfl) (MC := 130) ⟨rfl, rfl⟩ (12) (by omega) (by omega) dL_warmed_512 (fun u H locs cells slots hc hs hP hD hS => ?_)
          refine lv_bipush (v := (-13)) hx hb dL_warmed_515 (by decide) ?_
          refine lv_icmp_ne (tgt := 637) hx hb dL_warmed_517 (by decide) (fun c9 => absurd (by decide) c9) (fun _ => ?_)
          refine lv_aload_n hx hb dL_warmed_520 rfl (lv_at hl 4 rfl) ?_
          refine lv_iload_n hx hb dL_warmed_521 rfl (lv_at hl 1 rfl) ?_
          refine lq_SW S9 hLF (q_temperature_1 l G cy kS vS a V (nI (nB V.σ)) hl9 ho ixn) (bigSW 2 hts (big_at 17 16 rfl) (big_at 0 2 rfl) (big_at 17 18 rfl) (big_at 17 17 rfl) rfl rfl (by decide +kernel) ⟨Nat.le_of_ble_eq_true rfl, Nat.le_of_ble_eq_true rfl⟩) hP hD hS hA rfl hl.1 rfl (Nat.le_of_ble_eq_true rfl) (MC := 130) ⟨rfl, rfl⟩ (11) (by omega) (by omega) dL_warmed_522 (fun u H locs cells slots hc hs hP hD hS => ?_)
          refine lv_bipush (v := (-11)) hx hb dL_warmed_525 (by decide) ?_
          refine lv_icmp_ne (tgt := 637) hx hb dL_warmed_527 (by decide) (fun c9 => absurd (by decide) c9) (fun _ => ?_)
          refine lv_aload_n hx hb dL_warmed_530 rfl (lv_at hl 4 rfl) ?_
          refine lv_iconst (v := 0) hx hb dL_warmed_531 (by decide) ?_
          refine lv_iload_n hx hb dL_warmed_532 rfl (lv_at hl 1 rfl) ?_
          refine lq_SW S9 hLF (q_isWarmer_2 l G cy kS vS a V 0 (nI (nB V.σ)) hl9 ho h1n ixn) (bigSW 3 hts (big_at 18 9 rfl) (big_at 0 2 rfl) (big_at 18 11 rfl) (big_at 18 10 rfl) rfl rfl (by decide +kernel) ⟨Nat.le_of_ble_eq_true rfl, Nat.le_of_ble_eq_true rfl⟩) hP hD hS hA rfl hl.1 rfl (Nat.le_of_ble_eq_true rfl) (MC := 130) ⟨rfl, rfl⟩ (10) (by omega) (by omega) dL_warmed_533 (fun u H locs cells slots hc hs hP hD hS => ?_)
          refine lv_bipush (v := (-11)) hx hb dL_warmed_536 (by decide) ?_
          refine lv_icmp_ne (tgt := 637) hx hb dL_warmed_538 (by decide) (fun c9 => absurd (by decide) c9) (fun _ => ?_)
          refine lv_aload_n hx hb dL_warmed_541 rfl (lv_at hl 4 rfl) ?_
          refine lv_iload_n hx hb dL_warmed_542 rfl (lv_at hl 1 rfl) ?_
          refine lq_SW S9 hLF (q_isPlugged_1 l G cy kS vS a V (nI (nB V.σ)) hl9 ho ixn) (bigSW 2 hts (big_at 21 7 rfl) (big_at 0 2 rfl) (big_at 21 9 rfl) (big_at 21 8 rfl) rfl rfl (by decide +kernel) ⟨Nat.le_of_ble_eq_true rfl, Nat.le_of_ble_eq_true rfl⟩) hP hD hS hA rfl hl.1 rfl (Nat.le_of_ble_eq_true rfl) (MC := 130) ⟨rfl, rfl⟩ (9) (by omega) (by omega) dL_warmed_543 (fun u H locs cells slots hc hs hP hD hS => ?_)
          refine lv_bipush (v := (-11)) hx hb dL_warmed_546 (by decide) ?_
          refine lv_icmp_ne (tgt := 637) hx hb dL_warmed_548 (by decide) (fun c9 => absurd (by decide) c9) (fun _ => ?_)
          refine lv_aload_n hx hb dL_warmed_551 rfl (lv_at hl 4 rfl) ?_
          refine lv_iload_n hx hb dL_warmed_552 rfl (lv_at hl 1 rfl) ?_
          refine lq_SW S9 hLF (q_volume_1 l G cy kS vS a V (nI (nB V.σ)) hl9 ho ixn) (bigSW 2 hts (big_at 21 10 rfl) (big_at 0 2 rfl) (big_at 21 12 rfl) (big_at 21 11 rfl) rfl rfl (by decide +kernel) ⟨Nat.le_of_ble_eq_true rfl, Nat.le_of_ble_eq_true rfl⟩) hP hD hS hA rfl hl.1 rfl (Nat.le_of_ble_eq_true rfl) (MC := 130) ⟨rfl, rfl⟩ (8) (by omega) (by omega) dL_warmed_553 (fun u H locs cells slots hc hs hP hD hS => ?_)
          refine lv_bipush (v := (-11)) hx hb dL_warmed_556 (by decide) ?_
          refine lv_icmp_ne (tgt := 637) hx hb dL_warmed_558 (by decide) (fun c9 => absurd (by decide) c9) (fun _ => ?_)
          refine lv_aload_n hx hb dL_warmed_561 rfl (lv_at hl 4 rfl) ?_
          refine lv_iconst (v := (-1)) hx hb dL_warmed_562 (by decide) ?_
          refine lq_SW S9 hLF (q_heat_1 l G cy kS vS a V (-1) hl9 ho ixm) (bigSW 2 hts (big_at 21 13 rfl) (big_at 0 2 rfl) (big_at 21 15 rfl) (big_at 21 14 rfl) rfl rfl (by decide +kernel) ⟨Nat.le_of_ble_eq_true rfl, Nat.le_of_ble_eq_true rfl⟩) hP hD hS hA rfl hl.1 rfl (Nat.le_of_ble_eq_true rfl) (MC := 130) ⟨rfl, rfl⟩ (7) (by omega) (by omega) dL_warmed_563 (fun u H locs cells slots hc hs hP hD hS => ?_)
          refine lv_bipush (v := (-11)) hx hb dL_warmed_566 (by decide) ?_
          refine lv_icmp_ne (tgt := 637) hx hb dL_warmed_568 (by decide) (fun c9 => absurd (by decide) c9) (fun _ => ?_)
          refine lv_aload_n hx hb dL_warmed_571 rfl (lv_at hl 4 rfl) ?_
          refine lv_iload_n hx hb dL_warmed_572 rfl (lv_at hl 1 rfl) ?_
          refine lv_bipush (v := 9) hx hb dL_warmed_573 (by decide) ?_
          refine lv_iconst (v := 0) hx hb dL_warmed_575 (by decide) ?_
          refine lq_SW S9 hLF (q_litres_1 l G cy kS vS a V (nI (nB V.σ)) 9 0 hl9 ho ixn) (bigSW 4 hts (big_at 18 20 rfl) (big_at 0 2 rfl) (big_at 18 22 rfl) (big_at 18 21 rfl) rfl rfl (by decide +kernel) ⟨Nat.le_of_ble_eq_true rfl, Nat.le_of_ble_eq_true rfl⟩) hP hD hS hA rfl hl.1 rfl (Nat.le_of_ble_eq_true rfl) (MC := 130) ⟨rfl, rfl⟩ (6) (by omega) (by omega) dL_warmed_576 (fun u H locs cells slots hc hs hP hD hS => ?_)
          refine lv_bipush (v := (-11)) hx hb dL_warmed_579 (by decide) ?_
          refine lv_icmp_ne (tgt := 637) hx hb dL_warmed_581 (by decide) (fun c9 => absurd (by decide) c9) (fun _ => ?_)
          refine lv_aload_n hx hb dL_warmed_584 rfl (lv_at hl 4 rfl) ?_
          refine lv_iconst (v := 0) hx hb dL_warmed_585 (by decide) ?_
          refine lv_iconst (v := 3) hx hb dL_warmed_586 (by decide) ?_
          refine lv_iconst (v := 0) hx hb dL_warmed_587 (by decide) ?_
          refine lq_SW S9 hLF (q_litres_2 l G cy kS vS a V 0 3 0 hl9 ho h1n (fun z => absurd z.1 (by decide))) (bigSW 4 hts (big_at 18 20 rfl) (big_at 0 2 rfl) (big_at 18 22 rfl) (big_at 18 21 rfl) rfl rfl (by decide +kernel) ⟨Nat.le_of_ble_eq_true rfl, Nat.le_of_ble_eq_true rfl⟩) hP hD hS hA rfl hl.1 rfl (Nat.le_of_ble_eq_true rfl) (MC := 130) ⟨rfl, rfl⟩ (5) (by omega) (by omega) dL_warmed_588 (fun u H locs cells slots hc hs hP hD hS => ?_)
          refine lv_bipush (v := (-12)) hx hb dL_warmed_591 (by decide) ?_
          refine lv_icmp_ne (tgt := 637) hx hb dL_warmed_593 (by decide) (fun c9 => absurd (by decide) c9) (fun _ => ?_)
          refine lv_aload_n hx hb dL_warmed_596 rfl (lv_at hl 4 rfl) ?_
          refine lv_iconst (v := 0) hx hb dL_warmed_597 (by decide) ?_
          refine lv_iconst (v := 0) hx hb dL_warmed_598 (by decide) ?_
          refine lv_bipush (v := 100) hx hb dL_warmed_599 (by decide) ?_
          refine lq_SW S9 hLF (q_byFormula_2 l G cy kS vS a V 0 0 100 hl9 ho h1n (fun z => absurd z.2 (by decide))) (bigSW 4 hts (big_at 19 16 rfl) (big_at 0 2 rfl) (big_at 19 18 rfl) (big_at 19 17 rfl) rfl rfl (by decide +kernel) ⟨Nat.le_of_ble_eq_true rfl, Nat.le_of_ble_eq_true rfl⟩) hP hD hS hA rfl hl.1 rfl (Nat.le_of_ble_eq_true rfl) (MC := 130) ⟨rfl, rfl⟩ (4) (by omega) (by omega) dL_warmed_601 (fun u H locs cells slots hc hs hP hD hS => ?_)
          refine lv_bipush (v := (-12)) hx hb dL_warmed_604 (by decide) ?_
          refine lv_icmp_ne (tgt := 637) hx hb dL_warmed_606 (by decide) (fun c9 => absurd (by decide) c9) (fun _ => ?_)
          refine lv_aload_n hx hb dL_warmed_609 rfl (lv_at hl 4 rfl) ?_
          refine lv_iconst (v := 0) hx hb dL_warmed_610 (by decide) ?_
          refine lv_iconst (v := (-1)) hx hb dL_warmed_611 (by decide) ?_
          refine lv_iconst (v := 5) hx hb dL_warmed_612 (by decide) ?_
          refine lq_SW S9 hLF (q_byFormula_2 l G cy kS vS a V 0 (-1) 5 hl9 ho h1n (fun z => absurd z.1 (by decide))) (bigSW 4 hts (big_at 19 16 rfl) (big_at 0 2 rfl) (big_at 19 18 rfl) (big_at 19 17 rfl) rfl rfl (by decide +kernel) ⟨Nat.le_of_ble_eq_true rfl, Nat.le_of_ble_eq_true rfl⟩) hP hD hS hA rfl hl.1 rfl (Nat.le_of_ble_eq_true rfl) (MC := 130) ⟨rfl, rfl⟩ (3) (by omega) (by omega) dL_warmed_613 (fun u H locs cells slots hc hs hP hD hS => ?_)
          refine lv_bipush (v := (-12)) hx hb dL_warmed_616 (by decide) ?_
          refine lv_icmp_ne (tgt := 637) hx hb dL_warmed_618 (by decide) (fun c9 => absurd (by decide) c9) (fun _ => ?_)
          refine lv_aload_n hx hb dL_warmed_621 rfl (lv_at hl 4 rfl) ?_
          refine lv_iconst (v := (-1)) hx hb dL_warmed_622 (by decide) ?_
          refine lv_iconst (v := 0) hx hb dL_warmed_623 (by decide) ?_
          refine lv_iconst (v := 0) hx hb dL_warmed_624 (by decide) ?_
          refine lq_SW S9 hLF (q_byFormula_1 l G cy kS vS a V (-1) 0 0 hl9 ho ixm) (bigSW 4 hts (big_at 19 16 rfl) (big_at 0 2 rfl) (big_at 19 18 rfl) (big_at 19 17 rfl) rfl rfl (by decide +kernel) ⟨Nat.le_of_ble_eq_true rfl, Nat.le_of_ble_eq_true rfl⟩) hP hD hS hA rfl hl.1 rfl (Nat.le_of_ble_eq_true rfl) (MC := 130) ⟨rfl, rfl⟩ (2) (by omega) (by omega) dL_warmed_625 (fun u H locs cells slots hc hs hP hD hS => ?_)
          refine lv_bipush (v := (-11)) hx hb dL_warmed_628 (by decide) ?_
          refine lv_icmp_ne (tgt := 637) hx hb dL_warmed_630 (by decide) (fun c9 => absurd (by decide) c9) (fun _ => ?_)
          refine lv_iconst (v := 1) hx hb dL_warmed_633 (by decide) ?_
          refine lv_goto (tgt := 638) hx hb dL_warmed_634 (by decide) ?_
          exact lx_zret hx hb hr hlocks (by rfl) ⟨rfl, rfl⟩ hP hS (by omega) (by omega) dL_warmed_638
        | succ d ih =>
          intro k hk u H locs cells slots hc hs hP hD hS ls hl
          have hk9 : k < (nB V.σ - 1) := by omega
          refine lv_iload hx hb dL_warmed_366 (lv_at hl 0 rfl) ?_
          refine lv_iload_n hx hb dL_warmed_368 rfl (lv_at hl 1 rfl) ?_
          refine lv_icmp_ge (tgt := 500) hx hb dL_warmed_369 (by decide) (fun c9 => absurd c9 (fun q => absurd ((nI_leI (by omega) (by omega)).mp q) (by omega))) (fun _ => ?_)
          refine lv_aload_n hx hb dL_warmed_372 rfl (lv_at hl 4 rfl) ?_
          refine lv_iload hx hb dL_warmed_373 (lv_at hl 0 rfl) ?_
          refine lv_iconst (v := 1) hx hb dL_warmed_375 (by decide) ?_
          refine lv_isub hx hb dL_warmed_376 ?_
          refine lv_t0 (show ((nI (k + 1)) - 1) = nI k from nI_pre9) ?_
          obtain ⟨a9, b9, ha9, hb9, ea9, eb9, hr9⟩ := rank_next (r := rkB (vB V.σ) (hB V.σ)) (f := fun j => rkN (vB V.σ) (hB V.σ) j (nB V.σ)) (N := nB V.σ) (i := k) (by omega) (fun b => rkN_c (nB V.σ)) (bath_ord hbd hN) (by omega)
          refine lq_SW S9 hLF (q_byTemperature l G cy kS vS a V k ho (by omega)) (bigSW 2 hts (big_at 20 8 rfl) (big_at 0 2 rfl) (big_at 20 10 rfl) (big_at 20 9 rfl) rfl rfl (by decide +kernel) ⟨Nat.le_of_ble_eq_true rfl, Nat.le_of_ble_eq_true rfl⟩) hP hD hS hA rfl hl.1 rfl (Nat.le_of_ble_eq_true rfl) (MC := 130) ⟨rfl, rfl⟩ (2 * d + 15) (by omega) (by omega) dL_warmed_377 (fun u H locs cells slots hc hs hP hD hS => ?_)
          refine lv_t0 (show (atF (fun j => rkN (vB V.σ) (hB V.σ) j (nB V.σ)) (nI k) 0 (nB V.σ)) = nI a9 from ea9) ?_
          refine lv_istore (lv' := [(5, .int (nI a9)), (4, .int (nI (k + 1))), (3, .int (nI (nB V.σ))), (2, .ref ro), (1, .ref b), (0, .ref a.aX)]) hx hb dL_warmed_380 hl (by decide) rfl (fun ls hl => ?_)
          refine lv_aload_n hx hb dL_warmed_382 rfl (lv_at hl 5 rfl) ?_
          refine lv_iload hx hb dL_warmed_383 (lv_at hl 1 rfl) ?_
          refine lq_SW S9 hLF (q_byTemperature l G cy kS vS a V (k + 1) ho (by omega)) (bigSW 2 hts (big_at 20 8 rfl) (big_at 0 2 rfl) (big_at 20 10 rfl) (big_at 20 9 rfl) rfl rfl (by decide +kernel) ⟨Nat.le_of_ble_eq_true rfl, Nat.le_of_ble_eq_true rfl⟩) hP hD hS hA rfl hl.1 rfl (Nat.le_of_ble_eq_true rfl) (MC := 130) ⟨rfl, rfl⟩ (2 * d + 14) (by omega) (by omega) dL_warmed_385 (fun u H locs cells slots hc hs hP hD hS => ?_)
          refine lv_t0 (show (atF (fun j => rkN (vB V.σ) (hB V.σ) j (nB V.σ)) (nI (k + 1)) 0 (nB V.σ)) = nI b9 from eb9) ?_
          refine lv_istore (lv' := [(6, .int (nI b9)), (5, .int (nI a9)), (4, .int (nI (k + 1))), (3, .int (nI (nB V.σ))), (2, .ref ro), (1, .ref b), (0, .ref a.aX)]) hx hb dL_warmed_388 hl (by decide) rfl (fun ls hl => ?_)
          refine lv_aload_n hx hb dL_warmed_390 rfl (lv_at hl 4 rfl) ?_
          refine lv_iload hx hb dL_warmed_391 (lv_at hl 0 rfl) ?_
          refine r_row (Wc := [OW cy a V u, rowsW cy ro ra V.σ]) hx hb hK hP 1 rfl b9 rfl hb9 hN dL_warmed_393 ?_
          refine lv_iconst (v := 0) hx hb dL_warmed_394 (by decide) ?_
          refine r_get (Wc := [OW cy a V u, rowsW cy ro ra V.σ]) (v := vB V.σ b9) hx hb hK hP 1 rfl b9 0 rfl (by decide) hb9 rfl dL_warmed_395 ?_
          by_cases wb : wet (vB V.σ) b9 = true
          · refine lv_if_le (tgt := 403) hx hb dL_warmed_396 (by decide) (fun c9 => absurd c9 (m_wet wb)) (fun _ => ?_)
            refine lv_iconst (v := 1) hx hb dL_warmed_399 (by decide) ?_
            refine lv_goto (tgt := 404) hx hb dL_warmed_400 (by decide) ?_
            refine lv_istore (lv' := [(7, .int 1), (6, .int (nI b9)), (5, .int (nI a9)), (4, .int (nI (k + 1))), (3, .int (nI (nB V.σ))), (2, .ref ro), (1, .ref b), (0, .ref a.aX)]) hx hb dL_warmed_404 hl (by decide) rfl (fun ls hl => ?_)
            refine lv_aload_n hx hb dL_warmed_406 rfl (lv_at hl 5 rfl) ?_
            refine lv_iload hx hb dL_warmed_407 (lv_at hl 2 rfl) ?_
            refine r_row (Wc := [OW cy a V u, rowsW cy ro ra V.σ]) hx hb hK hP 1 rfl a9 rfl ha9 hN dL_warmed_409 ?_
            refine lv_iconst (v := 0) hx hb dL_warmed_410 (by decide) ?_
            refine r_get (Wc := [OW cy a V u, rowsW cy ro ra V.σ]) (v := vB V.σ a9) hx hb hK hP 1 rfl a9 0 rfl (by decide) ha9 rfl dL_warmed_411 ?_
            by_cases wa : wet (vB V.σ) a9 = true
            · refine lv_if_le (tgt := 419) hx hb dL_warmed_412 (by decide) (fun c9 => absurd c9 (m_wet wa)) (fun _ => ?_)
              refine lv_iconst (v := 1) hx hb dL_warmed_415 (by decide) ?_
              refine lv_goto (tgt := 420) hx hb dL_warmed_416 (by decide) ?_
              refine lv_istore (lv' := [(8, .int 1), (7, .int 1), (6, .int (nI b9)), (5, .int (nI a9)), (4, .int (nI (k + 1))), (3, .int (nI (nB V.σ))), (2, .ref ro), (1, .ref b), (0, .ref a.aX)]) hx hb dL_warmed_420 hl (by decide) rfl (fun ls hl => ?_)
              refine lv_iload hx hb dL_warmed_422 (lv_at hl 1 rfl) ?_
              refine lv_if_eq (tgt := 446) hx hb dL_warmed_424 (by decide) (fun c9 => absurd c9 (by decide)) (fun _ => ?_)
              refine lv_iload hx hb dL_warmed_427 (lv_at hl 0 rfl) ?_
              refine lv_if_eq (tgt := 446) hx hb dL_warmed_429 (by decide) (fun c9 => absurd c9 (by decide)) (fun _ => ?_)
              refine lv_aload_n hx hb dL_warmed_432 rfl (lv_at hl 6 rfl) ?_
              refine lv_iload hx hb dL_warmed_433 (lv_at hl 3 rfl) ?_
              refine r_row (Wc := [OW cy a V u, rowsW cy ro ra V.σ]) hx hb hK hP 1 rfl a9 rfl ha9 hN dL_warmed_435 ?_
              refine lv_aload_n hx hb dL_warmed_436 rfl (lv_at hl 6 rfl) ?_
              refine lv_iload hx hb dL_warmed_437 (lv_at hl 2 rfl) ?_
              refine r_row (Wc := [OW cy a V u, rowsW cy ro ra V.σ]) hx hb hK hP 1 rfl b9 rfl hb9 hN dL_warmed_439 ?_
              refine m_ro (va_runS S9 (n_warmer l G cy (ra a9) (ra b9) (rowF V.σ a9) (rowF V.σ b9)) (bigS 2 hts (big_at 18 17 rfl) (big_at 0 2 rfl) (big_at 18 19 rfl) (big_at 18 18 rfl) rfl rfl (by decide +kernel) ⟨Nat.le_of_ble_eq_true rfl, Nat.le_of_ble_eq_true rfl⟩) ⟨fun b2 U g mk q => ⟨q.1, PB.blind U g mk b2 q.2⟩, fun U hU hW => ⟨rfl, PB.at hK (r_two (PpartC (Wc := [OW cy a V u, rowsW cy ro ra V.σ]) (cs := [rowsW cy ro ra V.σ]) hP [1] rfl) ha9 hb9) U hU hW⟩⟩ (g := F0 m _ ls _) rfl rfl hl.1 rfl (lv_room (Nat.le_of_ble_eq_true rfl)) dL_warmed_440 ⟨(show _ ≤ 130 by omega), (show _ ≤ 64 * 130 by omega)⟩) ?_
              refine lv_goto (tgt := 469) hx hb dL_warmed_443 (by decide) ?_
              refine lv_lstore (lv' := [(9, .long ((hB V.σ a9).toInt64 * (vB V.σ b9).toInt64 - (hB V.σ b9).toInt64 * (vB V.σ a9).toInt64)), (8, .int 1), (7, .int 1), (6, .int (nI b9)), (5, .int (nI a9)), (4, .int (nI (k + 1))), (3, .int (nI (nB V.σ))), (2, .ref ro), (1, .ref b), (0, .ref a.aX)]) hx hb dL_warmed_469 hl (by decide) rfl (fun ls hl => ?_)
              refine lv_lload hx hb dL_warmed_471 (lv_at hl 0 rfl) ?_
              refine lv_lconst (v := 0) hx hb dL_warmed_473 (by decide) ?_
              obtain ⟨y1, y2⟩ := wrm_rank hbd (show a9 < 5 by omega) (show b9 < 5 by omega) wa wb hr9
              refine W.lcmp hx hb dL_warmed_474 ?_
              refine lv_if_lt (tgt := 492) hx hb dL_warmed_475 (by decide) (fun c9 => absurd c9 y1) (fun _ => ?_)
              refine lv_lload hx hb dL_warmed_478 (lv_at hl 0 rfl) ?_
              refine lv_lconst (v := 0) hx hb dL_warmed_480 (by decide) ?_
              refine W.lcmp hx hb dL_warmed_481 ?_
              refine lv_if_ne (tgt := 494) hx hb dL_warmed_482 (by decide) (fun c3 => ?_) (fun c3 => ?_)
              · refine lv_iinc (v := nI ((k + 1) + 1)) (lv' := [(4, .int (nI ((k + 1) + 1))), (9, .long ((hB V.σ a9).toInt64 * (vB V.σ b9).toInt64 - (hB V.σ b9).toInt64 * (vB V.σ a9).toInt64)), (8, .int 1), (7, .int 1), (6, .int (nI b9)), (5, .int (nI a9)), (3, .int (nI (nB V.σ))), (2, .ref ro), (1, .ref b), (0, .ref a.aX)]) hx hb dL_warmed_494 hl (k := 5) rfl (m_inc _) (by decide) rfl (fun ls hl => ?_)
                refine lv_goto (tgt := 366) hx hb dL_warmed_497 (by decide) ?_
                exact ih (k + 1) (by omega) _ _ _ _ _ (by omega) (by omega) hP hD hS ls (lv_sub hl [0, 6, 7, 8, 9] rfl)
              · have y3 := y2 c3
                refine lv_iload hx hb dL_warmed_485 (lv_at hl 4 rfl) ?_
                refine lv_iload hx hb dL_warmed_487 (lv_at hl 3 rfl) ?_
                refine lv_icmp_le (tgt := 494) hx hb dL_warmed_489 (by decide) (fun _ => ?_) (fun c9 => absurd ((nI_leI (by omega) (by omega)).mpr (by omega)) c9)
                refine lv_iinc (v := nI ((k + 1) + 1)) (lv' := [(4, .int (nI ((k + 1) + 1))), (9, .long ((hB V.σ a9).toInt64 * (vB V.σ b9).toInt64 - (hB V.σ b9).toInt64 * (vB V.σ a9).toInt64)), (8, .int 1), (7, .int 1), (6, .int (nI b9)), (5, .int (nI a9)), (3, .int (nI (nB V.σ))), (2, .ref ro), (1, .ref b), (0, .ref a.aX)]) hx hb dL_warmed_494 hl (k := 5) rfl (m_inc _) (by decide) rfl (fun ls hl => ?_)
                refine lv_goto (tgt := 366) hx hb dL_warmed_497 (by decide) ?_
                exact ih (k + 1) (by omega) _ _ _ _ _ (by omega) (by omega) hP hD hS ls (lv_sub hl [0, 6, 7, 8, 9] rfl)
            · exact absurd wb (rk_dry hbd (by omega) (by omega) wa hr9).1
          · refine lv_if_le (tgt := 403) hx hb dL_warmed_396 (by decide) (fun _ => ?_) (fun c9 => absurd (dry_le wb) c9)
            refine lv_iconst (v := 0) hx hb dL_warmed_403 (by decide) ?_
            refine lv_istore (lv' := [(7, .int 0), (6, .int (nI b9)), (5, .int (nI a9)), (4, .int (nI (k + 1))), (3, .int (nI (nB V.σ))), (2, .ref ro), (1, .ref b), (0, .ref a.aX)]) hx hb dL_warmed_404 hl (by decide) rfl (fun ls hl => ?_)
            refine lv_aload_n hx hb dL_warmed_406 rfl (lv_at hl 5 rfl) ?_
            refine lv_iload hx hb dL_warmed_407 (lv_at hl 2 rfl) ?_
            refine r_row (Wc := [OW cy a V u, rowsW cy ro ra V.σ]) hx hb hK hP 1 rfl a9 rfl ha9 hN dL_warmed_409 ?_
            refine lv_iconst (v := 0) hx hb dL_warmed_410 (by decide) ?_
            refine r_get (Wc := [OW cy a V u, rowsW cy ro ra V.σ]) (v := vB V.σ a9) hx hb hK hP 1 rfl a9 0 rfl (by decide) ha9 rfl dL_warmed_411 ?_
            by_cases wa : wet (vB V.σ) a9 = true
            · refine lv_if_le (tgt := 419) hx hb dL_warmed_412 (by decide) (fun c9 => absurd c9 (m_wet wa)) (fun _ => ?_)
              refine lv_iconst (v := 1) hx hb dL_warmed_415 (by decide) ?_
              refine lv_goto (tgt := 420) hx hb dL_warmed_416 (by decide) ?_
              refine lv_istore (lv' := [(8, .int 1), (7, .int 0), (6, .int (nI b9)), (5, .int (nI a9)), (4, .int (nI (k + 1))), (3, .int (nI (nB V.σ))), (2, .ref ro), (1, .ref b), (0, .ref a.aX)]) hx hb dL_warmed_420 hl (by decide) rfl (fun ls hl => ?_)
              refine lv_iload hx hb dL_warmed_422 (lv_at hl 1 rfl) ?_
              refine lv_if_eq (tgt := 446) hx hb dL_warmed_424 (by decide) (fun _ => ?_) (fun c9 => absurd (by decide) c9)
              refine lv_iload hx hb dL_warmed_446 (lv_at hl 0 rfl) ?_
              refine lv_iload hx hb dL_warmed_448 (lv_at hl 1 rfl) ?_
              refine lv_icmp_ne (tgt := 457) hx hb dL_warmed_450 (by decide) (fun _ => ?_) (fun c9 => absurd c9 (by decide))
              refine lv_iload hx hb dL_warmed_457 (lv_at hl 0 rfl) ?_
              refine lv_if_eq (tgt := 466) hx hb dL_warmed_459 (by decide) (fun c9 => absurd c9 (by decide)) (fun _ => ?_)
              refine lv_lconst (v := 1) hx hb dL_warmed_462 (by decide) ?_
              refine lv_goto (tgt := 469) hx hb dL_warmed_463 (by decide) ?_
              refine lv_lstore (lv' := [(9, .long 1), (8, .int 1), (7, .int 0), (6, .int (nI b9)), (5, .int (nI a9)), (4, .int (nI (k + 1))), (3, .int (nI (nB V.σ))), (2, .ref ro), (1, .ref b), (0, .ref a.aX)]) hx hb dL_warmed_469 hl (by decide) rfl (fun ls hl => ?_)
              refine lv_lload hx hb dL_warmed_471 (lv_at hl 0 rfl) ?_
              refine lv_lconst (v := 0) hx hb dL_warmed_473 (by decide) ?_
              refine W.lcmp hx hb dL_warmed_474 ?_
              refine lv_if_lt (tgt := 492) hx hb dL_warmed_475 (by decide) (fun c9 => absurd c9 (by decide)) (fun _ => ?_)
              refine lv_lload hx hb dL_warmed_478 (lv_at hl 0 rfl) ?_
              refine lv_lconst (v := 0) hx hb dL_warmed_480 (by decide) ?_
              refine W.lcmp hx hb dL_warmed_481 ?_
              refine lv_if_ne (tgt := 494) hx hb dL_warmed_482 (by decide) (fun _ => ?_) (fun c9 => absurd c9 (by decide))
              refine lv_iinc (v := nI ((k + 1) + 1)) (lv' := [(4, .int (nI ((k + 1) + 1))), (9, .long 1), (8, .int 1), (7, .int 0), (6, .int (nI b9)), (5, .int (nI a9)), (3, .int (nI (nB V.σ))), (2, .ref ro), (1, .ref b), (0, .ref a.aX)]) hx hb dL_warmed_494 hl (k := 5) rfl (m_inc _) (by decide) rfl (fun ls hl => ?_)
              refine lv_goto (tgt := 366) hx hb dL_warmed_497 (by decide) ?_
              exact ih (k + 1) (by omega) _ _ _ _ _ (by omega) (by omega) hP hD hS ls (lv_sub hl [0, 6, 7, 8, 9] rfl)
            · refine lv_if_le (tgt := 419) hx hb dL_warmed_412 (by decide) (fun _ => ?_) (fun c9 => absurd (dry_le wa) c9)
              refine lv_iconst (v := 0) hx hb dL_warmed_419 (by decide) ?_
              refine lv_istore (lv' := [(8, .int 0), (7, .int 0), (6, .int (nI b9)), (5, .int (nI a9)), (4, .int (nI (k + 1))), (3, .int (nI (nB V.σ))), (2, .ref ro), (1, .ref b), (0, .ref a.aX)]) hx hb dL_warmed_420 hl (by decide) rfl (fun ls hl => ?_)
              refine lv_iload hx hb dL_warmed_422 (lv_at hl 1 rfl) ?_
              refine lv_if_eq (tgt := 446) hx hb dL_warmed_424 (by decide) (fun _ => ?_) (fun c9 => absurd (by decide) c9)
              refine lv_iload hx hb dL_warmed_446 (lv_at hl 0 rfl) ?_
              refine lv_iload hx hb dL_warmed_448 (lv_at hl 1 rfl) ?_
              refine lv_icmp_ne (tgt := 457) hx hb dL_warmed_450 (by decide) (fun c9 => absurd (by decide) c9) (fun _ => ?_)
              refine lv_lconst (v := 0) hx hb dL_warmed_453 (by decide) ?_
              refine lv_goto (tgt := 469) hx hb dL_warmed_454 (by decide) ?_
              refine lv_lstore (lv' := [(9, .long 0), (8, .int 0), (7, .int 0), (6, .int (nI b9)), (5, .int (nI a9)), (4, .int (nI (k + 1))), (3, .int (nI (nB V.σ))), (2, .ref ro), (1, .ref b), (0, .ref a.aX)]) hx hb dL_warmed_469 hl (by decide) rfl (fun ls hl => ?_)
              refine lv_lload hx hb dL_warmed_471 (lv_at hl 0 rfl) ?_
              refine lv_lconst (v := 0) hx hb dL_warmed_473 (by decide) ?_
              have y3 := (rk_dry hbd (by omega) (by omega) wa hr9).2
              refine W.lcmp hx hb dL_warmed_474 ?_
              refine lv_if_lt (tgt := 492) hx hb dL_warmed_475 (by decide) (fun c9 => absurd c9 (by decide)) (fun _ => ?_)
              refine lv_lload hx hb dL_warmed_478 (lv_at hl 0 rfl) ?_
              refine lv_lconst (v := 0) hx hb dL_warmed_480 (by decide) ?_
              refine W.lcmp hx hb dL_warmed_481 ?_
              refine lv_if_ne (tgt := 494) hx hb dL_warmed_482 (by decide) (fun c9 => absurd (by decide) c9) (fun _ => ?_)
              refine lv_iload hx hb dL_warmed_485 (lv_at hl 4 rfl) ?_
              refine lv_iload hx hb dL_warmed_487 (lv_at hl 3 rfl) ?_
              refine lv_icmp_le (tgt := 494) hx hb dL_warmed_489 (by decide) (fun _ => ?_) (fun c9 => absurd ((nI_leI (by omega) (by omega)).mpr (by omega)) c9)
              refine lv_iinc (v := nI ((k + 1) + 1)) (lv' := [(4, .int (nI ((k + 1) + 1))), (9, .long 0), (8, .int 0), (7, .int 0), (6, .int (nI b9)), (5, .int (nI a9)), (3, .int (nI (nB V.σ))), (2, .ref ro), (1, .ref b), (0, .ref a.aX)]) hx hb dL_warmed_494 hl (k := 5) rfl (m_inc _) (by decide) rfl (fun ls hl => ?_)
              refine lv_goto (tgt := 366) hx hb dL_warmed_497 (by decide) ?_
              exact ih (k + 1) (by omega) _ _ _ _ _ (by omega) (by omega) hP hD hS ls (lv_sub hl [0, 6, 7, 8, 9] rfl)
      have e366_4 : nI (0 + 1) = 1 := rfl
      exact L366 ((nB V.σ - 1)) 0 (by omega) _ _ _ _ _ (by omega) (by omega) hP hD hS ls (by rw [e366_4]; exact lv_sub hl [0, 1, 2, 3, 4] rfl)
    | succ d ih =>
      intro k hk u H locs cells slots hc hs hP hD hS ls hl
      have hk9 : k < nB V.σ := by omega
      refine lv_iload hx hb dL_warmed_11 (lv_at hl 0 rfl) ?_
      refine lv_iload_n hx hb dL_warmed_13 rfl (lv_at hl 1 rfl) ?_
      refine lv_icmp_ge (tgt := 363) hx hb dL_warmed_14 (by decide) (fun c9 => absurd c9 (fun q => absurd ((nI_leI (by omega) (by omega)).mp q) (by omega))) (fun _ => ?_)
      refine lv_aload_n hx hb dL_warmed_17 rfl (lv_at hl 2 rfl) ?_
      refine lv_iload hx hb dL_warmed_18 (lv_at hl 0 rfl) ?_
      refine r_row (Wc := [OW cy a V u, rowsW cy ro ra V.σ]) hx hb hK hP 1 rfl k rfl hk9 hN dL_warmed_20 ?_
      refine lv_iconst (v := 0) hx hb dL_warmed_21 (by decide) ?_
      refine r_get (Wc := [OW cy a V u, rowsW cy ro ra V.σ]) (v := vB V.σ k) hx hb hK hP 1 rfl k 0 rfl (by decide) hk9 rfl dL_warmed_22 ?_
      have hk5 : k < 5 := by omega
      by_cases w9 : wet (vB V.σ) k = true
      · have v9 := m_wet w9
        refine lv_if_le (tgt := 30) hx hb dL_warmed_23 (by decide) (fun c9 => absurd c9 v9) (fun _ => ?_)
        refine lv_iconst (v := 1) hx hb dL_warmed_26 (by decide) ?_
        refine lv_goto (tgt := 31) hx hb dL_warmed_27 (by decide) ?_
        refine lv_istore (lv' := [(5, .int 1), (4, .int (nI k)), (3, .int (nI (nB V.σ))), (2, .ref ro), (1, .ref b), (0, .ref a.aX)]) hx hb dL_warmed_31 hl (by decide) rfl (fun ls hl => ?_)
        refine lv_aload_n hx hb dL_warmed_33 rfl (lv_at hl 5 rfl) ?_
        refine lv_iload hx hb dL_warmed_34 (lv_at hl 1 rfl) ?_
        refine lq_SW S9 hLF (q_temperature l G cy kS vS a V k ho hk9 w9) (bigSW 2 hts (big_at 17 16 rfl) (big_at 0 2 rfl) (big_at 17 18 rfl) (big_at 17 17 rfl) rfl rfl (by decide +kernel) ⟨Nat.le_of_ble_eq_true rfl, Nat.le_of_ble_eq_true rfl⟩) hP hD hS hA rfl hl.1 rfl (Nat.le_of_ble_eq_true rfl) (MC := 130) ⟨rfl, rfl⟩ (12 * d + 51) (by omega) (by omega) dL_warmed_36 (fun u H locs cells slots hc hs hP hD hS => ?_)
        refine lv_iload hx hb dL_warmed_39 (lv_at hl 0 rfl) ?_
        refine lv_if_eq (tgt := 60) hx hb dL_warmed_41 (by decide) (fun c9 => absurd c9 (by decide)) (fun _ => ?_)
        refine lv_aload_n hx hb dL_warmed_44 rfl (lv_at hl 3 rfl) ?_
        refine lv_iload hx hb dL_warmed_45 (lv_at hl 1 rfl) ?_
        refine r_row (Wc := [OW cy a V u, rowsW cy ro ra V.σ]) hx hb hK hP 1 rfl k rfl hk9 hN dL_warmed_47 ?_
        refine lv_iconst (v := 1) hx hb dL_warmed_48 (by decide) ?_
        refine r_get (Wc := [OW cy a V u, rowsW cy ro ra V.σ]) (v := hB V.σ k) hx hb hK hP 1 rfl k 1 rfl (by decide) hk9 rfl dL_warmed_49 ?_
        refine lv_aload_n hx hb dL_warmed_50 rfl (lv_at hl 3 rfl) ?_
        refine lv_iload hx hb dL_warmed_51 (lv_at hl 1 rfl) ?_
        refine r_row (Wc := [OW cy a V u, rowsW cy ro ra V.σ]) hx hb hK hP 1 rfl k rfl hk9 hN dL_warmed_53 ?_
        refine lv_iconst (v := 0) hx hb dL_warmed_54 (by decide) ?_
        refine r_get (Wc := [OW cy a V u, rowsW cy ro ra V.σ]) (v := vB V.σ k) hx hb hK hP 1 rfl k 0 rfl (by decide) hk9 rfl dL_warmed_55 ?_
        refine lv_idiv hx hb dL_warmed_56 (le_nz v9) ?_
        refine lv_goto (tgt := 62) hx hb dL_warmed_57 (by decide) ?_
        refine lv_icmp_ne (tgt := 109) hx hb dL_warmed_62 (by decide) (fun c9 => absurd (rdeg_pos v9) c9) (fun _ => ?_)
        refine lv_iload hx hb dL_warmed_65 (lv_at hl 0 rfl) ?_
        refine lv_if_eq (tgt := 95) hx hb dL_warmed_67 (by decide) (fun c9 => absurd c9 (by decide)) (fun _ => ?_)
        refine lv_aload_n hx hb dL_warmed_70 rfl (lv_at hl 5 rfl) ?_
        refine lv_iload hx hb dL_warmed_71 (lv_at hl 1 rfl) ?_
        refine lq_V S9 hLF (d_exactTemperature l G cy kS vS a V k ho hk9 w9 hwt) (bigV 1 hts (big_at 18 5 rfl) (big_at 0 6 rfl) (big_at 18 8 rfl) (big_at 18 6 rfl) (big_at 18 7 rfl) rfl rfl (by decide +kernel) ⟨Nat.le_of_ble_eq_true rfl, Nat.le_of_ble_eq_true rfl⟩) hP hD hS hA rfl hl.1 rfl (Nat.le_of_ble_eq_true rfl) (MC := 130) ⟨rfl, rfl⟩ (12 * d + 51) (by omega) (by omega) dL_warmed_73 (fun u H locs cells slots hc hs hP hD hS => ?_)
        refine lv_aload_n hx hb dL_warmed_76 rfl (lv_at hl 3 rfl) ?_
        refine lv_iload hx hb dL_warmed_77 (lv_at hl 1 rfl) ?_
        refine r_row (Wc := [OW cy a V u, rowsW cy ro ra V.σ]) hx hb hK hP 1 rfl k rfl hk9 hN dL_warmed_79 ?_
        refine lv_iconst (v := 1) hx hb dL_warmed_80 (by decide) ?_
        refine r_get (Wc := [OW cy a V u, rowsW cy ro ra V.σ]) (v := hB V.σ k) hx hb hK hP 1 rfl k 1 rfl (by decide) hk9 rfl dL_warmed_81 ?_
        refine lv_i2d hx hb dL_warmed_82 ?_
        refine lv_aload_n hx hb dL_warmed_83 rfl (lv_at hl 3 rfl) ?_
        refine lv_iload hx hb dL_warmed_84 (lv_at hl 1 rfl) ?_
        refine r_row (Wc := [OW cy a V u, rowsW cy ro ra V.σ]) hx hb hK hP 1 rfl k rfl hk9 hN dL_warmed_86 ?_
        refine lv_iconst (v := 0) hx hb dL_warmed_87 (by decide) ?_
        refine r_get (Wc := [OW cy a V u, rowsW cy ro ra V.σ]) (v := vB V.σ k) hx hb hK hP 1 rfl k 0 rfl (by decide) hk9 rfl dL_warmed_88 ?_
        refine lv_i2d hx hb dL_warmed_89 ?_
        refine lv_ddiv hx hb dL_warmed_90 (ed_ok hwt hk5 w9) ?_
        refine lv_dcmp hx hb dL_warmed_91 ?_
        refine lv_if_ne (tgt := 109) hx hb dL_warmed_92 (by decide) (fun c9 => absurd (dcm_self (ed_ok hwt hk5 w9)) c9) (fun _ => ?_)
        refine lv_iload hx hb dL_warmed_95 (lv_at hl 0 rfl) ?_
        refine lv_if_ne (tgt := 111) hx hb dL_warmed_97 (by decide) (fun _ => ?_) (fun c9 => absurd c9 (by decide))
        refine lv_iconst (v := 0) hx hb dL_warmed_111 (by decide) ?_
        refine lv_istore (lv' := [(6, .int 0), (5, .int 1), (4, .int (nI k)), (3, .int (nI (nB V.σ))), (2, .ref ro), (1, .ref b), (0, .ref a.aX)]) hx hb dL_warmed_112 hl (by decide) rfl (fun ls hl => ?_)
        have L114 : ∀ (d114 ot : Nat), ot + d114 = nB V.σ → ∀ (u : OU) (H : Heap) (locs : List Loc) (cells slots : Nat), cells + (12 * d + 1 * d114 + 46) ≤ 130 → slots + 64 * (12 * d + 1 * d114 + 46) ≤ 64 * 130 → va_P G vwCl (fl [OW cy a V u, rowsW cy ro ra V.σ]) H → va_D (va_A (OW cy a V u0) s.heap.size) (fl [OW cy a V u, rowsW cy ro ra V.σ]) → va_S (va_A (OW cy a V u0) s.heap.size) s.heap H locs → ∀ ls : Array Slot, lv_has ls 11 [(6, .int (nI ot)), (5, .int 1), (4, .int (nI k)), (3, .int (nI (nB V.σ))), (2, .ref ro), (1, .ref b), (0, .ref a.aX)] → W p l e ({ frames := 14, cells := 130, slots := 64 * 130, locals := 400 } : Room) s m ([.ref a.aX, .ref b] : List Value).toArray below meth cq H locs cells slots (lxZ below ([.ref a.aX, .ref b] : List Value).toArray s G cy a V u0 ((fun V2 r2 => V2 = V ∧ r2 = .int 1)) 130) (F0 m 114 ls []) := by
          intro d114
          induction d114 with
          | zero =>
            intro ot hot u H locs cells slots hc hs hP hD hS ls hl
            have hot9 : ot = nB V.σ := by omega
            subst hot9
            refine lv_iload hx hb dL_warmed_114 (lv_at hl 0 rfl) ?_
            refine lv_iload_n hx hb dL_warmed_116 rfl (lv_at hl 3 rfl) ?_
            refine lv_icmp_ge (tgt := 191) hx hb dL_warmed_117 (by decide) (fun _ => ?_) (fun c9 => absurd (Int32.le_refl _) c9)
            refine lv_iconst (v := 0) hx hb dL_warmed_191 (by decide) ?_
            refine lv_istore (lv' := [(6, .int 0), (5, .int 1), (4, .int (nI k)), (3, .int (nI (nB V.σ))), (2, .ref ro), (1, .ref b), (0, .ref a.aX)]) hx hb dL_warmed_192 hl (by decide) rfl (fun ls hl => ?_)
            have L194 : ∀ (d194 tp : Nat), tp + d194 = 3 → ∀ (u : OU) (H : Heap) (locs : List Loc) (cells slots : Nat), cells + (12 * d + 2 * d194 + 40) ≤ 130 → slots + 64 * (12 * d + 2 * d194 + 40) ≤ 64 * 130 → va_P G vwCl (fl [OW cy a V u, rowsW cy ro ra V.σ]) H → va_D (va_A (OW cy a V u0) s.heap.size) (fl [OW cy a V u, rowsW cy ro ra V.σ]) → va_S (va_A (OW cy a V u0) s.heap.size) s.heap H locs → ∀ ls : Array Slot, lv_has ls 11 [(6, .int (nI tp)), (5, .int 1), (4, .int (nI k)), (3, .int (nI (nB V.σ))), (2, .ref ro), (1, .ref b), (0, .ref a.aX)] → W p l e ({ frames := 14, cells := 130, slots := 64 * 130, locals := 400 } : Room) s m ([.ref a.aX, .ref b] : List Value).toArray below meth cq H locs cells slots (lxZ below ([.ref a.aX, .ref b] : List Value).toArray s G cy a V u0 ((fun V2 r2 => V2 = V ∧ r2 = .int 1)) 130) (F0 m 194 ls []) := by
              intro d194
              induction d194 with
              | zero =>
                intro tp htp u H locs cells slots hc hs hP hD hS ls hl
                have htp9 : tp = 3 := by omega
                have et : tp = 3 := htp9
                subst et
                refine lv_iload hx hb dL_warmed_194 (lv_at hl 0 rfl) ?_
                refine lv_iconst (v := 3) hx hb dL_warmed_196 (by decide) ?_
                refine lv_icmp_ge (tgt := 357) hx hb dL_warmed_197 (by decide) (fun _ => ?_) (fun c9 => absurd (by decide) c9)
                refine lv_iinc (v := nI (k + 1)) (lv' := [(4, .int (nI (k + 1))), (6, .int (nI 3)), (5, .int 1), (3, .int (nI (nB V.σ))), (2, .ref ro), (1, .ref b), (0, .ref a.aX)]) hx hb dL_warmed_357 hl (k := 2) rfl (m_inc _) (by decide) rfl (fun ls hl => ?_)
                refine lv_goto (tgt := 11) hx hb dL_warmed_360 (by decide) ?_
                exact ih (k + 1) (by omega) _ _ _ _ _ (by omega) (by omega) hP hD hS ls (lv_sub hl [0, 3, 4, 5, 6] rfl)
              | succ d194 ih6 =>
                intro tp htp u H locs cells slots hc hs hP hD hS ls hl
                have htp9 : tp < 3 := by omega
                refine lv_iload hx hb dL_warmed_194 (lv_at hl 0 rfl) ?_
                refine lv_iconst (v := 3) hx hb dL_warmed_196 (by decide) ?_
                refine lv_icmp_ge (tgt := 357) hx hb dL_warmed_197 (by decide) (fun c9 => absurd c9 (fun q => absurd ((m_leN (a := 3) (b := tp) rfl rfl (by omega) (by omega)).mp q) (by omega))) (fun _ => ?_)
                refine lv_aload_n hx hb dL_warmed_200 rfl (lv_at hl 5 rfl) ?_
                refine lv_iconst (v := 2) hx hb dL_warmed_201 (by decide) ?_
                refine lv_iload hx hb dL_warmed_202 (lv_at hl 2 rfl) ?_
                refine lv_iadd hx hb dL_warmed_204 ?_
                refine lv_t0 (show (2 + (nI k)) = nI (k + 2) from (Int32.add_comm 2 (nI k)).trans (nI_add k 2)) ?_
                refine m_ro (va_runS S9 (n_cell l G cy b L xs (k + 2) (by omega)) (bigS 2 hts (big_at 5 9 rfl) (big_at 0 2 rfl) (big_at 5 11 rfl) (big_at 5 10 rfl) rfl rfl (by decide +kernel) ⟨Nat.le_of_ble_eq_true rfl, Nat.le_of_ble_eq_true rfl⟩) ⟨fun b2 U g mk q => ⟨q.1, cell_blind U g mk b2 q.2⟩, fun U hU hW => ⟨rfl, cell_at hX hbl hbA hL hS U hU hW⟩⟩ (g := F0 m _ ls _) rfl rfl hl.1 rfl (lv_room (Nat.le_of_ble_eq_true rfl)) dL_warmed_205 ⟨(show _ ≤ 130 by omega), (show _ ≤ 64 * 130 by omega)⟩) ?_
                refine lv_iconst (v := 3) hx hb dL_warmed_208 (by decide) ?_
                obtain ⟨N1, hN1, eN1⟩ := ush_ex (cellF L xs (k + 2)) 3 3 (by decide) (by decide)
                refine lv_iushr (v := nI N1) hx hb dL_warmed_209 eN1 ?_
                refine lv_bipush (v := 100) hx hb dL_warmed_210 (by decide) ?_
                refine lv_irem hx hb dL_warmed_212 (by decide) ?_
                refine lv_t0 (show ((nI N1) - (nI N1) / 100 * 100) = nI (N1 % 100) from rem_n (by omega) (by decide) (by decide)) ?_
                have hg9 : inR (nI (N1 % 100)) 0 99 = true := inR_n (lo := 0) (hi := 99) (Nat.zero_le _) (by omega) (by decide)
                have ht9 : tapB (nI tp) = true := inR_n (lo := 0) (hi := 2) (Nat.zero_le _) (by omega) (by decide)
                refine lv_istore (lv' := [(7, .int (nI (N1 % 100))), (6, .int (nI tp)), (5, .int 1), (4, .int (nI k)), (3, .int (nI (nB V.σ))), (2, .ref ro), (1, .ref b), (0, .ref a.aX)]) hx hb dL_warmed_213 hl (by decide) rfl (fun ls hl => ?_)
                refine lv_iload hx hb dL_warmed_215 (lv_at hl 2 rfl) ?_
                refine lv_if_eq (tgt := 225) hx hb dL_warmed_217 (by decide) (fun c9 => absurd c9 (by decide)) (fun _ => ?_)
                refine lv_bipush (v := (-15)) hx hb dL_warmed_220 (by decide) ?_
                refine lv_goto (tgt := 227) hx hb dL_warmed_222 (by decide) ?_
                refine lv_istore (lv' := [(8, .int (-15)), (7, .int (nI (N1 % 100))), (6, .int (nI tp)), (5, .int 1), (4, .int (nI k)), (3, .int (nI (nB V.σ))), (2, .ref ro), (1, .ref b), (0, .ref a.aX)]) hx hb dL_warmed_227 hl (by decide) rfl (fun ls hl => ?_)
                refine lv_bipush (v := 100) hx hb dL_warmed_229 (by decide) ?_
                refine lv_aload_n hx hb dL_warmed_231 rfl (lv_at hl 6 rfl) ?_
                refine lv_iload hx hb dL_warmed_232 (lv_at hl 4 rfl) ?_
                refine r_row (Wc := [OW cy a V u, rowsW cy ro ra V.σ]) hx hb hK hP 1 rfl k rfl hk9 hN dL_warmed_234 ?_
                refine lv_iconst (v := 0) hx hb dL_warmed_235 (by decide) ?_
                refine r_get (Wc := [OW cy a V u, rowsW cy ro ra V.σ]) (v := vB V.σ k) hx hb hK hP 1 rfl k 0 rfl (by decide) hk9 rfl dL_warmed_236 ?_
                refine lv_isub hx hb dL_warmed_237 ?_
                refine lv_istore (lv' := [(9, .int (100 - (vB V.σ k))), (8, .int (-15)), (7, .int (nI (N1 % 100))), (6, .int (nI tp)), (5, .int 1), (4, .int (nI k)), (3, .int (nI (nB V.σ))), (2, .ref ro), (1, .ref b), (0, .ref a.aX)]) hx hb dL_warmed_238 hl (by decide) rfl (fun ls hl => ?_)
                obtain ⟨ev, ev2⟩ := bx_v hbd hk5
                have ev3 : 0 < bx (vB V.σ k) := Nat.pos_of_ne_zero (fun z => v9 (by rw [ev, z]; decide))
                have L240 : ∀ (d240 i : Nat), i + d240 = (101 - bx (vB V.σ k)) → ∀ (u : OU) (H : Heap) (locs : List Loc) (cells slots : Nat), cells + (12 * d + 2 * d194 + 0 * d240 + 42) ≤ 130 → slots + 64 * (12 * d + 2 * d194 + 0 * d240 + 42) ≤ 64 * 130 → va_P G vwCl (fl [OW cy a V u, rowsW cy ro ra V.σ]) H → va_D (va_A (OW cy a V u0) s.heap.size) (fl [OW cy a V u, rowsW cy ro ra V.σ]) → va_S (va_A (OW cy a V u0) s.heap.size) s.heap H locs → ∀ ls : Array Slot, lv_has ls 11 [(9, .int (nI (101 - bx (vB V.σ k) - i) - 1)), (8, .int (fdD (ltF (vB V.σ k) (hB V.σ k) (nI tp) (nI (N1 % 100))) (-15) (101 - bx (vB V.σ k)) i)), (7, .int (nI (N1 % 100))), (6, .int (nI tp)), (5, .int 1), (4, .int (nI k)), (3, .int (nI (nB V.σ))), (2, .ref ro), (1, .ref b), (0, .ref a.aX)] → W p l e ({ frames := 14, cells := 130, slots := 64 * 130, locals := 400 } : Room) s m ([.ref a.aX, .ref b] : List Value).toArray below meth cq H locs cells slots (lxZ below ([.ref a.aX, .ref b] : List Value).toArray s G cy a V u0 ((fun V2 r2 => V2 = V ∧ r2 = .int 1)) 130) (F0 m 240 ls []) := by
                  intro d240
                  induction d240 with
                  | zero =>
                    intro i hi u H locs cells slots hc hs hP hD hS ls hl
                    have hi9 : i = (101 - bx (vB V.σ k)) := by omega
                    subst hi9
                    refine lv_iload hx hb dL_warmed_240 (lv_at hl 0 rfl) ?_
                    refine lv_if_lt (tgt := 319) hx hb dL_warmed_242 (by decide) (fun _ => ?_) (fun c9 => absurd (by rw [Nat.sub_self]; decide) c9)
                    refine lv_aload_n hx hb dL_warmed_319 rfl (lv_at hl 9 rfl) ?_
                    refine lv_iload hx hb dL_warmed_320 (lv_at hl 5 rfl) ?_
                    refine lv_iload hx hb dL_warmed_322 (lv_at hl 3 rfl) ?_
                    refine lv_iload hx hb dL_warmed_324 (lv_at hl 2 rfl) ?_
                    have eF := frm_eq hbd hk5 w9 ht9 hg9
                    have eE : fdD (ltF (vB V.σ k) (hB V.σ k) (nI tp) (nI (N1 % 100))) (-15) (101 - bx (vB V.σ k)) (101 - bx (vB V.σ k)) = _ := fdD_end (by omega)
                    by_cases x9 : atF (ltF (vB V.σ k) (hB V.σ k) (nI tp) (nI (N1 % 100))) 1 0 (101 - bx (vB V.σ k)) = -1
                    · refine lq_SW S9 hLF (q_litres_4 l G cy kS vS a V k (nI tp) (nI (N1 % 100)) (-1) hl9 ho hk9 hbd ht9 hg9 w9 x9 rfl) (bigSW 4 hts (big_at 18 20 rfl) (big_at 0 2 rfl) (big_at 18 22 rfl) (big_at 18 21 rfl) rfl rfl (by decide +kernel) ⟨Nat.le_of_ble_eq_true rfl, Nat.le_of_ble_eq_true rfl⟩) hP hD hS hA rfl hl.1 rfl (Nat.le_of_ble_eq_true rfl) (MC := 130) ⟨rfl, rfl⟩ (12 * d + 2 * d194 + 41) (by omega) (by omega) dL_warmed_326 (fun u H locs cells slots hc hs hP hD hS => ?_)
                      refine lv_iload hx hb dL_warmed_329 (lv_at hl 1 rfl) ?_
                      refine lv_icmp_ne (tgt := 349) hx hb dL_warmed_331 (by decide) (fun c9 => absurd (by rw [eE, if_pos x9]) c9) (fun _ => ?_)
                      refine lv_aload_n hx hb dL_warmed_334 rfl (lv_at hl 9 rfl) ?_
                      refine lv_iload hx hb dL_warmed_335 (lv_at hl 5 rfl) ?_
                      refine lv_iload hx hb dL_warmed_337 (lv_at hl 3 rfl) ?_
                      refine lv_iload hx hb dL_warmed_339 (lv_at hl 2 rfl) ?_
                      refine lq_SW S9 hLF (q_byFormula_4 l G cy kS vS a V k (nI tp) (nI (N1 % 100)) hl9 ho hk9 hbd ht9 hg9 w9 (eF.trans x9)) (bigSW 4 hts (big_at 19 16 rfl) (big_at 0 2 rfl) (big_at 19 18 rfl) (big_at 19 17 rfl) rfl rfl (by decide +kernel) ⟨Nat.le_of_ble_eq_true rfl, Nat.le_of_ble_eq_true rfl⟩) hP hD hS hA rfl hl.1 rfl (Nat.le_of_ble_eq_true rfl) (MC := 130) ⟨rfl, rfl⟩ (12 * d + 2 * d194 + 40) (by omega) (by omega) dL_warmed_341 (fun u H locs cells slots hc hs hP hD hS => ?_)
                      refine lv_iload hx hb dL_warmed_344 (lv_at hl 1 rfl) ?_
                      refine lv_icmp_eq (tgt := 351) hx hb dL_warmed_346 (by decide) (fun _ => ?_) (fun c9 => absurd (by rw [eE, if_pos x9]) c9)
                      refine lv_iinc (v := nI (tp + 1)) (lv' := [(6, .int (nI (tp + 1))), (9, .int (nI (101 - bx (vB V.σ k) - (101 - bx (vB V.σ k))) - 1)), (8, .int (fdD (ltF (vB V.σ k) (hB V.σ k) (nI tp) (nI (N1 % 100))) (-15) (101 - bx (vB V.σ k)) (101 - bx (vB V.σ k)))), (7, .int (nI (N1 % 100))), (5, .int 1), (4, .int (nI k)), (3, .int (nI (nB V.σ))), (2, .ref ro), (1, .ref b), (0, .ref a.aX)]) hx hb dL_warmed_351 hl (k := 3) rfl (m_inc _) (by decide) rfl (fun ls hl => ?_)
                      refine lv_goto (tgt := 194) hx hb dL_warmed_354 (by decide) ?_
                      exact ih6 (tp + 1) (by omega) _ _ _ _ _ (by omega) (by omega) hP hD hS ls (lv_sub hl [0, 4, 5, 6, 7, 8, 9] rfl)
                    · refine lq_SW S9 hLF (q_litres l G cy kS vS a V k (nI tp) (nI (N1 % 100)) _ ho hk9 hbd ht9 hg9 w9 rfl x9) (bigSW 4 hts (big_at 18 20 rfl) (big_at 0 2 rfl) (big_at 18 22 rfl) (big_at 18 21 rfl) rfl rfl (by decide +kernel) ⟨Nat.le_of_ble_eq_true rfl, Nat.le_of_ble_eq_true rfl⟩) hP hD hS hA rfl hl.1 rfl (Nat.le_of_ble_eq_true rfl) (MC := 130) ⟨rfl, rfl⟩ (12 * d + 2 * d194 + 41) (by omega) (by omega) dL_warmed_326 (fun u H locs cells slots hc hs hP hD hS => ?_)
                      refine lv_iload hx hb dL_warmed_329 (lv_at hl 1 rfl) ?_
                      refine lv_icmp_ne (tgt := 349) hx hb dL_warmed_331 (by decide) (fun c9 => absurd (by rw [eE, if_neg x9]) c9) (fun _ => ?_)
                      refine lv_aload_n hx hb dL_warmed_334 rfl (lv_at hl 9 rfl) ?_
                      refine lv_iload hx hb dL_warmed_335 (lv_at hl 5 rfl) ?_
                      refine lv_iload hx hb dL_warmed_337 (lv_at hl 3 rfl) ?_
                      refine lv_iload hx hb dL_warmed_339 (lv_at hl 2 rfl) ?_
                      refine lq_SW S9 hLF (q_byFormula l G cy kS vS a V k (nI tp) (nI (N1 % 100)) ho hk9 hbd ht9 hg9 w9 (fun z => x9 (eF.symm.trans z))) (bigSW 4 hts (big_at 19 16 rfl) (big_at 0 2 rfl) (big_at 19 18 rfl) (big_at 19 17 rfl) rfl rfl (by decide +kernel) ⟨Nat.le_of_ble_eq_true rfl, Nat.le_of_ble_eq_true rfl⟩) hP hD hS hA rfl hl.1 rfl (Nat.le_of_ble_eq_true rfl) (MC := 130) ⟨rfl, rfl⟩ (12 * d + 2 * d194 + 40) (by omega) (by omega) dL_warmed_341 (fun u H locs cells slots hc hs hP hD hS => ?_)
                      refine lv_iload hx hb dL_warmed_344 (lv_at hl 1 rfl) ?_
                      refine lv_icmp_eq (tgt := 351) hx hb dL_warmed_346 (by decide) (fun _ => ?_) (fun c9 => absurd (by rw [eE, if_neg x9]; exact eF) c9)
                      refine lv_iinc (v := nI (tp + 1)) (lv' := [(6, .int (nI (tp + 1))), (9, .int (nI (101 - bx (vB V.σ k) - (101 - bx (vB V.σ k))) - 1)), (8, .int (fdD (ltF (vB V.σ k) (hB V.σ k) (nI tp) (nI (N1 % 100))) (-15) (101 - bx (vB V.σ k)) (101 - bx (vB V.σ k)))), (7, .int (nI (N1 % 100))), (5, .int 1), (4, .int (nI k)), (3, .int (nI (nB V.σ))), (2, .ref ro), (1, .ref b), (0, .ref a.aX)]) hx hb dL_warmed_351 hl (k := 3) rfl (m_inc _) (by decide) rfl (fun ls hl => ?_)
                      refine lv_goto (tgt := 194) hx hb dL_warmed_354 (by decide) ?_
                      exact ih6 (tp + 1) (by omega) _ _ _ _ _ (by omega) (by omega) hP hD hS ls (lv_sub hl [0, 4, 5, 6, 7, 8, 9] rfl)
                  | succ d240 ih7 =>
                    intro i hi u H locs cells slots hc hs hP hD hS ls hl
                    have hi9 : i < (101 - bx (vB V.σ k)) := by omega
                    have eL : nI (101 - bx (vB V.σ k) - i) - 1 = nI (101 - bx (vB V.σ k) - (i + 1)) := ltr1 hi9
                    rw [eL] at hl
                    have hl : lv_has ls 11 [(9, .int (nI (101 - bx (vB V.σ k) - (i + 1)))), (8, .int (fdD (ltF (vB V.σ k) (hB V.σ k) (nI tp) (nI (N1 % 100))) (-15) (101 - bx (vB V.σ k)) i)), (7, .int (nI (N1 % 100))), (6, .int (nI tp)), (5, .int 1), (4, .int (nI k)), (3, .int (nI (nB V.σ))), (2, .ref ro), (1, .ref b), (0, .ref a.aX)] := hl
                    refine lv_iload hx hb dL_warmed_240 (lv_at hl 0 rfl) ?_
                    refine lv_if_lt (tgt := 319) hx hb dL_warmed_242 (by decide) (fun c9 => absurd c9 (ge0_nI (by omega))) (fun _ => ?_)
                    refine lv_iload hx hb dL_warmed_245 (lv_at hl 4 rfl) ?_
                    refine lv_if_eq (tgt := 319) hx hb dL_warmed_247 (by decide) (fun c9 => absurd c9 (by decide)) (fun _ => ?_)
                    refine lv_aload_n hx hb dL_warmed_250 rfl (lv_at hl 7 rfl) ?_
                    refine lv_iload hx hb dL_warmed_251 (lv_at hl 5 rfl) ?_
                    refine r_row (Wc := [OW cy a V u, rowsW cy ro ra V.σ]) hx hb hK hP 1 rfl k rfl hk9 hN dL_warmed_253 ?_
                    refine lv_iconst (v := 1) hx hb dL_warmed_254 (by decide) ?_
                    refine r_get (Wc := [OW cy a V u, rowsW cy ro ra V.σ]) (v := hB V.σ k) hx hb hK hP 1 rfl k 1 rfl (by decide) hk9 rfl dL_warmed_255 ?_
                    refine lv_iload hx hb dL_warmed_256 (lv_at hl 0 rfl) ?_
                    refine lv_bipush (v := 10) hx hb dL_warmed_258 (by decide) ?_
                    refine lv_bipush (v := 30) hx hb dL_warmed_260 (by decide) ?_
                    refine lv_iload hx hb dL_warmed_262 (lv_at hl 3 rfl) ?_
                    refine lv_imul hx hb dL_warmed_264 ?_
                    refine lv_iadd hx hb dL_warmed_265 ?_
                    refine lv_imul hx hb dL_warmed_266 ?_
                    refine lv_iadd hx hb dL_warmed_267 ?_
                    refine lv_aload_n hx hb dL_warmed_268 rfl (lv_at hl 7 rfl) ?_
                    refine lv_iload hx hb dL_warmed_269 (lv_at hl 5 rfl) ?_
                    refine r_row (Wc := [OW cy a V u, rowsW cy ro ra V.σ]) hx hb hK hP 1 rfl k rfl hk9 hN dL_warmed_271 ?_
                    refine lv_iconst (v := 0) hx hb dL_warmed_272 (by decide) ?_
                    refine r_get (Wc := [OW cy a V u, rowsW cy ro ra V.σ]) (v := vB V.σ k) hx hb hK hP 1 rfl k 0 rfl (by decide) hk9 rfl dL_warmed_273 ?_
                    refine lv_iload hx hb dL_warmed_274 (lv_at hl 0 rfl) ?_
                    refine lv_iadd hx hb dL_warmed_276 ?_
                    have yp : ¬ vB V.σ k + nI (101 - bx (vB V.σ k) - (i + 1)) ≤ 0 := lit_nz ev ev3 (by omega)
                    refine lv_idiv hx hb dL_warmed_277 (le_nz yp) ?_
                    refine lv_t0 (show (((hB V.σ k) + ((nI (101 - bx (vB V.σ k) - (i + 1))) * (10 + (30 * (nI tp))))) / ((vB V.σ k) + (nI (101 - bx (vB V.σ k) - (i + 1))))) = rdeg ((hB V.σ k) + ((nI (101 - bx (vB V.σ k) - (i + 1))) * (10 + (30 * (nI tp))))) ((vB V.σ k) + (nI (101 - bx (vB V.σ k) - (i + 1)))) from (rdeg_pos yp).symm) ?_
                    refine lv_istore (lv' := [(10, .int (rdeg ((hB V.σ k) + ((nI (101 - bx (vB V.σ k) - (i + 1))) * (10 + (30 * (nI tp))))) ((vB V.σ k) + (nI (101 - bx (vB V.σ k) - (i + 1)))))), (9, .int (nI (101 - bx (vB V.σ k) - (i + 1)))), (8, .int (fdD (ltF (vB V.σ k) (hB V.σ k) (nI tp) (nI (N1 % 100))) (-15) (101 - bx (vB V.σ k)) i)), (7, .int (nI (N1 % 100))), (6, .int (nI tp)), (5, .int 1), (4, .int (nI k)), (3, .int (nI (nB V.σ))), (2, .ref ro), (1, .ref b), (0, .ref a.aX)]) hx hb dL_warmed_278 hl (by decide) rfl (fun ls hl => ?_)
                    refine lv_iload hx hb dL_warmed_280 (lv_at hl 4 rfl) ?_
                    refine lv_if_ne (tgt := 292) hx hb dL_warmed_282 (by decide) (fun c1 => ?_) (fun c1 => ?_)
                    · have tpos : ¬ nI tp ≤ 0 := fun z => absurd ((nI_leI (b := 0) (by omega) (by omega)).mp z) (fun z => c1 (by rw [Nat.le_zero.mp z]; rfl))
                      refine lv_iload hx hb dL_warmed_292 (lv_at hl 4 rfl) ?_
                      refine lv_if_le (tgt := 309) hx hb dL_warmed_294 (by decide) (fun c9 => absurd c9 tpos) (fun _ => ?_)
                      refine lv_iload hx hb dL_warmed_297 (lv_at hl 0 rfl) ?_
                      refine lv_iload hx hb dL_warmed_299 (lv_at hl 3 rfl) ?_
                      refine lv_icmp_lt (tgt := 309) hx hb dL_warmed_301 (by decide) (fun c2 => ?_) (fun c2 => ?_)
                      · refine lv_iload hx hb dL_warmed_309 (lv_at hl 2 rfl) ?_
                        have y1 : ¬ (ltF (vB V.σ k) (hB V.σ k) (nI tp) (nI (N1 % 100))) (101 - bx (vB V.σ k) - (i + 1)) = 1 := ltF_no (fun z => absurd z c1) (fun _ => c2)
                        refine lv_istore (lv' := [(8, .int (fdD (ltF (vB V.σ k) (hB V.σ k) (nI tp) (nI (N1 % 100))) (-15) (101 - bx (vB V.σ k)) i)), (10, .int (rdeg ((hB V.σ k) + ((nI (101 - bx (vB V.σ k) - (i + 1))) * (10 + (30 * (nI tp))))) ((vB V.σ k) + (nI (101 - bx (vB V.σ k) - (i + 1)))))), (9, .int (nI (101 - bx (vB V.σ k) - (i + 1)))), (7, .int (nI (N1 % 100))), (6, .int (nI tp)), (5, .int 1), (4, .int (nI k)), (3, .int (nI (nB V.σ))), (2, .ref ro), (1, .ref b), (0, .ref a.aX)]) hx hb dL_warmed_311 hl (by decide) rfl (fun ls hl => ?_)
                        refine lv_iinc (v := (nI (101 - bx (vB V.σ k) - (i + 1))) + (-1)) (lv' := [(9, .int ((nI (101 - bx (vB V.σ k) - (i + 1))) + (-1))), (8, .int (fdD (ltF (vB V.σ k) (hB V.σ k) (nI tp) (nI (N1 % 100))) (-15) (101 - bx (vB V.σ k)) i)), (10, .int (rdeg ((hB V.σ k) + ((nI (101 - bx (vB V.σ k) - (i + 1))) * (10 + (30 * (nI tp))))) ((vB V.σ k) + (nI (101 - bx (vB V.σ k) - (i + 1)))))), (7, .int (nI (N1 % 100))), (6, .int (nI tp)), (5, .int 1), (4, .int (nI k)), (3, .int (nI (nB V.σ))), (2, .ref ro), (1, .ref b), (0, .ref a.aX)]) hx hb dL_warmed_313 hl (k := 2) rfl rfl (by decide) rfl (fun ls hl => ?_)
                        refine lv_goto (tgt := 240) hx hb dL_warmed_316 (by decide) ?_
                        have e240_9 : nI (101 - bx (vB V.σ k) - (i + 1)) - 1 = (nI (101 - bx (vB V.σ k) - (i + 1))) + (-1) := (Int32.sub_eq_add_neg _ _)
                        have e240_8 : fdD (ltF (vB V.σ k) (hB V.σ k) (nI tp) (nI (N1 % 100))) (-15) (101 - bx (vB V.σ k)) (i + 1) = fdD (ltF (vB V.σ k) (hB V.σ k) (nI tp) (nI (N1 % 100))) (-15) (101 - bx (vB V.σ k)) i := (fdD_no y1)
                        exact ih7 (i + 1) (by omega) _ _ _ _ _ (by omega) (by omega) hP hD hS ls (by rw [e240_9, e240_8]; exact lv_sub hl [0, 1, 3, 4, 5, 6, 7, 8, 9, 10] rfl)
                      · refine lv_iload hx hb dL_warmed_304 (lv_at hl 1 rfl) ?_
                        refine lv_goto (tgt := 311) hx hb dL_warmed_306 (by decide) ?_
                        have y1 : (ltF (vB V.σ k) (hB V.σ k) (nI tp) (nI (N1 % 100))) (101 - bx (vB V.σ k) - (i + 1)) = 1 := ltF_yes (fun z => absurd z c1) (fun _ => c2)
                        refine lv_istore (lv' := [(8, .int (nI (101 - bx (vB V.σ k) - (i + 1)))), (10, .int (rdeg ((hB V.σ k) + ((nI (101 - bx (vB V.σ k) - (i + 1))) * (10 + (30 * (nI tp))))) ((vB V.σ k) + (nI (101 - bx (vB V.σ k) - (i + 1)))))), (9, .int (nI (101 - bx (vB V.σ k) - (i + 1)))), (7, .int (nI (N1 % 100))), (6, .int (nI tp)), (5, .int 1), (4, .int (nI k)), (3, .int (nI (nB V.σ))), (2, .ref ro), (1, .ref b), (0, .ref a.aX)]) hx hb dL_warmed_311 hl (by decide) rfl (fun ls hl => ?_)
                        refine lv_iinc (v := (nI (101 - bx (vB V.σ k) - (i + 1))) + (-1)) (lv' := [(9, .int ((nI (101 - bx (vB V.σ k) - (i + 1))) + (-1))), (8, .int (nI (101 - bx (vB V.σ k) - (i + 1)))), (10, .int (rdeg ((hB V.σ k) + ((nI (101 - bx (vB V.σ k) - (i + 1))) * (10 + (30 * (nI tp))))) ((vB V.σ k) + (nI (101 - bx (vB V.σ k) - (i + 1)))))), (7, .int (nI (N1 % 100))), (6, .int (nI tp)), (5, .int 1), (4, .int (nI k)), (3, .int (nI (nB V.σ))), (2, .ref ro), (1, .ref b), (0, .ref a.aX)]) hx hb dL_warmed_313 hl (k := 2) rfl rfl (by decide) rfl (fun ls hl => ?_)
                        refine lv_goto (tgt := 240) hx hb dL_warmed_316 (by decide) ?_
                        have e240_9 : nI (101 - bx (vB V.σ k) - (i + 1)) - 1 = (nI (101 - bx (vB V.σ k) - (i + 1))) + (-1) := (Int32.sub_eq_add_neg _ _)
                        have e240_8 : fdD (ltF (vB V.σ k) (hB V.σ k) (nI tp) (nI (N1 % 100))) (-15) (101 - bx (vB V.σ k)) (i + 1) = nI (101 - bx (vB V.σ k) - (i + 1)) := (fdD_yes y1)
                        exact ih7 (i + 1) (by omega) _ _ _ _ _ (by omega) (by omega) hP hD hS ls (by rw [e240_9, e240_8]; exact lv_sub hl [0, 1, 3, 4, 5, 6, 7, 8, 9, 10] rfl)
                    · refine lv_iload hx hb dL_warmed_285 (lv_at hl 0 rfl) ?_
                      refine lv_iload hx hb dL_warmed_287 (lv_at hl 3 rfl) ?_
                      refine lv_icmp_le (tgt := 304) hx hb dL_warmed_289 (by decide) (fun c3 => ?_) (fun c3 => ?_)
                      · refine lv_iload hx hb dL_warmed_304 (lv_at hl 1 rfl) ?_
                        refine lv_goto (tgt := 311) hx hb dL_warmed_306 (by decide) ?_
                        have y1 : (ltF (vB V.σ k) (hB V.σ k) (nI tp) (nI (N1 % 100))) (101 - bx (vB V.σ k) - (i + 1)) = 1 := ltF_yes (fun _ => c3) (fun z => absurd c1 z)
                        refine lv_istore (lv' := [(8, .int (nI (101 - bx (vB V.σ k) - (i + 1)))), (10, .int (rdeg ((hB V.σ k) + ((nI (101 - bx (vB V.σ k) - (i + 1))) * (10 + (30 * (nI tp))))) ((vB V.σ k) + (nI (101 - bx (vB V.σ k) - (i + 1)))))), (9, .int (nI (101 - bx (vB V.σ k) - (i + 1)))), (7, .int (nI (N1 % 100))), (6, .int (nI tp)), (5, .int 1), (4, .int (nI k)), (3, .int (nI (nB V.σ))), (2, .ref ro), (1, .ref b), (0, .ref a.aX)]) hx hb dL_warmed_311 hl (by decide) rfl (fun ls hl => ?_)
                        refine lv_iinc (v := (nI (101 - bx (vB V.σ k) - (i + 1))) + (-1)) (lv' := [(9, .int ((nI (101 - bx (vB V.σ k) - (i + 1))) + (-1))), (8, .int (nI (101 - bx (vB V.σ k) - (i + 1)))), (10, .int (rdeg ((hB V.σ k) + ((nI (101 - bx (vB V.σ k) - (i + 1))) * (10 + (30 * (nI tp))))) ((vB V.σ k) + (nI (101 - bx (vB V.σ k) - (i + 1)))))), (7, .int (nI (N1 % 100))), (6, .int (nI tp)), (5, .int 1), (4, .int (nI k)), (3, .int (nI (nB V.σ))), (2, .ref ro), (1, .ref b), (0, .ref a.aX)]) hx hb dL_warmed_313 hl (k := 2) rfl rfl (by decide) rfl (fun ls hl => ?_)
                        refine lv_goto (tgt := 240) hx hb dL_warmed_316 (by decide) ?_
                        have e240_9 : nI (101 - bx (vB V.σ k) - (i + 1)) - 1 = (nI (101 - bx (vB V.σ k) - (i + 1))) + (-1) := (Int32.sub_eq_add_neg _ _)
                        have e240_8 : fdD (ltF (vB V.σ k) (hB V.σ k) (nI tp) (nI (N1 % 100))) (-15) (101 - bx (vB V.σ k)) (i + 1) = nI (101 - bx (vB V.σ k) - (i + 1)) := (fdD_yes y1)
                        exact ih7 (i + 1) (by omega) _ _ _ _ _ (by omega) (by omega) hP hD hS ls (by rw [e240_9, e240_8]; exact lv_sub hl [0, 1, 3, 4, 5, 6, 7, 8, 9, 10] rfl)
                      · refine lv_iload hx hb dL_warmed_292 (lv_at hl 4 rfl) ?_
                        refine lv_if_le (tgt := 309) hx hb dL_warmed_294 (by decide) (fun _ => ?_) (fun c9 => absurd (by rw [c1]; decide) c9)
                        refine lv_iload hx hb dL_warmed_309 (lv_at hl 2 rfl) ?_
                        have y1 : ¬ (ltF (vB V.σ k) (hB V.σ k) (nI tp) (nI (N1 % 100))) (101 - bx (vB V.σ k) - (i + 1)) = 1 := ltF_no (fun _ => c3) (fun z => absurd c1 z)
                        refine lv_istore (lv' := [(8, .int (fdD (ltF (vB V.σ k) (hB V.σ k) (nI tp) (nI (N1 % 100))) (-15) (101 - bx (vB V.σ k)) i)), (10, .int (rdeg ((hB V.σ k) + ((nI (101 - bx (vB V.σ k) - (i + 1))) * (10 + (30 * (nI tp))))) ((vB V.σ k) + (nI (101 - bx (vB V.σ k) - (i + 1)))))), (9, .int (nI (101 - bx (vB V.σ k) - (i + 1)))), (7, .int (nI (N1 % 100))), (6, .int (nI tp)), (5, .int 1), (4, .int (nI k)), (3, .int (nI (nB V.σ))), (2, .ref ro), (1, .ref b), (0, .ref a.aX)]) hx hb dL_warmed_311 hl (by decide) rfl (fun ls hl => ?_)
                        refine lv_iinc (v := (nI (101 - bx (vB V.σ k) - (i + 1))) + (-1)) (lv' := [(9, .int ((nI (101 - bx (vB V.σ k) - (i + 1))) + (-1))), (8, .int (fdD (ltF (vB V.σ k) (hB V.σ k) (nI tp) (nI (N1 % 100))) (-15) (101 - bx (vB V.σ k)) i)), (10, .int (rdeg ((hB V.σ k) + ((nI (101 - bx (vB V.σ k) - (i + 1))) * (10 + (30 * (nI tp))))) ((vB V.σ k) + (nI (101 - bx (vB V.σ k) - (i + 1)))))), (7, .int (nI (N1 % 100))), (6, .int (nI tp)), (5, .int 1), (4, .int (nI k)), (3, .int (nI (nB V.σ))), (2, .ref ro), (1, .ref b), (0, .ref a.aX)]) hx hb dL_warmed_313 hl (k := 2) rfl rfl (by decide) rfl (fun ls hl => ?_)
                        refine lv_goto (tgt := 240) hx hb dL_warmed_316 (by decide) ?_
                        have e240_9 : nI (101 - bx (vB V.σ k) - (i + 1)) - 1 = (nI (101 - bx (vB V.σ k) - (i + 1))) + (-1) := (Int32.sub_eq_add_neg _ _)
                        have e240_8 : fdD (ltF (vB V.σ k) (hB V.σ k) (nI tp) (nI (N1 % 100))) (-15) (101 - bx (vB V.σ k)) (i + 1) = fdD (ltF (vB V.σ k) (hB V.σ k) (nI tp) (nI (N1 % 100))) (-15) (101 - bx (vB V.σ k)) i := (fdD_no y1)
                        exact ih7 (i + 1) (by omega) _ _ _ _ _ (by omega) (by omega) hP hD hS ls (by rw [e240_9, e240_8]; exact lv_sub hl [0, 1, 3, 4, 5, 6, 7, 8, 9, 10] rfl)
                have e240_9 : nI (101 - bx (vB V.σ k) - 0) - 1 = 100 - (vB V.σ k) := (ltr0 ev ev2)
                have e240_8 : fdD (ltF (vB V.σ k) (hB V.σ k) (nI tp) (nI (N1 % 100))) (-15) (101 - bx (vB V.σ k)) 0 = -15 := rfl
                exact L240 ((101 - bx (vB V.σ k))) 0 (by omega) _ _ _ _ _ (by omega) (by omega) hP hD hS ls (by rw [e240_9, e240_8]; exact lv_sub hl [0, 1, 2, 3, 4, 5, 6, 7, 8, 9] rfl)
            exact L194 (3) 0 (by omega) _ _ _ _ _ (by omega) (by omega) hP hD hS ls (lv_sub hl [0, 1, 2, 3, 4, 5, 6] rfl)
          | succ d114 ih5 =>
            intro ot hot u H locs cells slots hc hs hP hD hS ls hl
            have hot9 : ot < nB V.σ := by omega
            refine lv_iload hx hb dL_warmed_114 (lv_at hl 0 rfl) ?_
            refine lv_iload_n hx hb dL_warmed_116 rfl (lv_at hl 3 rfl) ?_
            refine lv_icmp_ge (tgt := 191) hx hb dL_warmed_117 (by decide) (fun c9 => absurd c9 (fun q => absurd ((nI_leI (by omega) (by omega)).mp q) (by omega))) (fun _ => ?_)
            refine lv_iload hx hb dL_warmed_120 (lv_at hl 1 rfl) ?_
            refine lv_if_eq (tgt := 138) hx hb dL_warmed_122 (by decide) (fun c9 => absurd c9 (by decide)) (fun _ => ?_)
            refine lv_aload_n hx hb dL_warmed_125 rfl (lv_at hl 4 rfl) ?_
            refine lv_iload hx hb dL_warmed_126 (lv_at hl 0 rfl) ?_
            refine r_row (Wc := [OW cy a V u, rowsW cy ro ra V.σ]) hx hb hK hP 1 rfl ot rfl hot9 hN dL_warmed_128 ?_
            refine lv_iconst (v := 0) hx hb dL_warmed_129 (by decide) ?_
            refine r_get (Wc := [OW cy a V u, rowsW cy ro ra V.σ]) (v := vB V.σ ot) hx hb hK hP 1 rfl ot 0 rfl (by decide) hot9 rfl dL_warmed_130 ?_
            by_cases w8 : wet (vB V.σ) ot = true
            · refine lv_if_le (tgt := 138) hx hb dL_warmed_131 (by decide) (fun c9 => absurd c9 (m_wet w8)) (fun _ => ?_)
              refine lv_iconst (v := 1) hx hb dL_warmed_134 (by decide) ?_
              refine lv_goto (tgt := 139) hx hb dL_warmed_135 (by decide) ?_
              refine lv_istore (lv' := [(7, .int 1), (6, .int (nI ot)), (5, .int 1), (4, .int (nI k)), (3, .int (nI (nB V.σ))), (2, .ref ro), (1, .ref b), (0, .ref a.aX)]) hx hb dL_warmed_139 hl (by decide) rfl (fun ls hl => ?_)
              refine lv_aload_n hx hb dL_warmed_141 rfl (lv_at hl 7 rfl) ?_
              refine lv_iload hx hb dL_warmed_142 (lv_at hl 3 rfl) ?_
              refine lv_iload hx hb dL_warmed_144 (lv_at hl 1 rfl) ?_
              refine lq_SW S9 hLF (q_isWarmer l G cy kS vS a V k ot ho hk9 hot9 w9 w8) (bigSW 3 hts (big_at 18 9 rfl) (big_at 0 2 rfl) (big_at 18 11 rfl) (big_at 18 10 rfl) rfl rfl (by decide +kernel) ⟨Nat.le_of_ble_eq_true rfl, Nat.le_of_ble_eq_true rfl⟩) hP hD hS hA rfl hl.1 rfl (Nat.le_of_ble_eq_true rfl) (MC := 130) ⟨rfl, rfl⟩ (12 * d + 1 * d114 + 46) (by omega) (by omega) dL_warmed_146 (fun u H locs cells slots hc hs hP hD hS => ?_)
              refine lv_iload hx hb dL_warmed_149 (lv_at hl 0 rfl) ?_
              refine lv_if_ne (tgt := 159) hx hb dL_warmed_151 (by decide) (fun _ => ?_) (fun c9 => absurd c9 (by decide))
              refine lv_aload_n hx hb dL_warmed_159 rfl (lv_at hl 5 rfl) ?_
              refine lv_iload hx hb dL_warmed_160 (lv_at hl 3 rfl) ?_
              refine r_row (Wc := [OW cy a V u, rowsW cy ro ra V.σ]) hx hb hK hP 1 rfl k rfl hk9 hN dL_warmed_162 ?_
              refine lv_aload_n hx hb dL_warmed_163 rfl (lv_at hl 5 rfl) ?_
              refine lv_iload hx hb dL_warmed_164 (lv_at hl 1 rfl) ?_
              refine r_row (Wc := [OW cy a V u, rowsW cy ro ra V.σ]) hx hb hK hP 1 rfl ot rfl hot9 hN dL_warmed_166 ?_
              refine m_ro (va_runS S9 (n_warmer l G cy (ra k) (ra ot) (rowF V.σ k) (rowF V.σ ot)) (bigS 2 hts (big_at 18 17 rfl) (big_at 0 2 rfl) (big_at 18 19 rfl) (big_at 18 18 rfl) rfl rfl (by decide +kernel) ⟨Nat.le_of_ble_eq_true rfl, Nat.le_of_ble_eq_true rfl⟩) ⟨fun b2 U g mk q => ⟨q.1, PB.blind U g mk b2 q.2⟩, fun U hU hW => ⟨rfl, PB.at hK (r_two (PpartC (Wc := [OW cy a V u, rowsW cy ro ra V.σ]) (cs := [rowsW cy ro ra V.σ]) hP [1] rfl) hk9 hot9) U hU hW⟩⟩ (g := F0 m _ ls _) rfl rfl hl.1 rfl (lv_room (Nat.le_of_ble_eq_true rfl)) dL_warmed_167 ⟨(show _ ≤ 130 by omega), (show _ ≤ 64 * 130 by omega)⟩) ?_
              refine lv_lconst (v := 0) hx hb dL_warmed_170 (by decide) ?_
              refine W.lcmp hx hb dL_warmed_171 ?_
              have h9 := hot_long hbd (show k < 5 by omega) (show ot < 5 by omega)
              by_cases z9 : hotter (vB V.σ) (hB V.σ) k ot = true
              · refine lv_if_le (tgt := 179) hx hb dL_warmed_172 (by decide) (fun c9 => absurd c9 (fun q => (h9.mp ((lg_cmp_le _ _).mp q)) z9)) (fun _ => ?_)
                refine lv_iconst (v := 1) hx hb dL_warmed_175 (by decide) ?_
                refine lv_goto (tgt := 180) hx hb dL_warmed_176 (by decide) ?_
                refine lv_icmp_eq (tgt := 185) hx hb dL_warmed_180 (by decide) (fun _ => ?_) (fun c9 => absurd (by rw [if_pos z9]; rfl) c9)
                refine lv_iinc (v := nI (ot + 1)) (lv' := [(6, .int (nI (ot + 1))), (7, .int 1), (5, .int 1), (4, .int (nI k)), (3, .int (nI (nB V.σ))), (2, .ref ro), (1, .ref b), (0, .ref a.aX)]) hx hb dL_warmed_185 hl (k := 1) rfl (m_inc _) (by decide) rfl (fun ls hl => ?_)
                refine lv_goto (tgt := 114) hx hb dL_warmed_188 (by decide) ?_
                exact ih5 (ot + 1) (by omega) _ _ _ _ _ (by omega) (by omega) hP hD hS ls (lv_sub hl [0, 2, 3, 4, 5, 6, 7] rfl)
              · refine lv_if_le (tgt := 179) hx hb dL_warmed_172 (by decide) (fun _ => ?_) (fun c9 => absurd ((lg_cmp_le _ _).mpr (h9.mpr z9)) c9)
                refine lv_iconst (v := 0) hx hb dL_warmed_179 (by decide) ?_
                refine lv_icmp_eq (tgt := 185) hx hb dL_warmed_180 (by decide) (fun _ => ?_) (fun c9 => absurd (by rw [if_neg z9]; rfl) c9)
                refine lv_iinc (v := nI (ot + 1)) (lv' := [(6, .int (nI (ot + 1))), (7, .int 1), (5, .int 1), (4, .int (nI k)), (3, .int (nI (nB V.σ))), (2, .ref ro), (1, .ref b), (0, .ref a.aX)]) hx hb dL_warmed_185 hl (k := 1) rfl (m_inc _) (by decide) rfl (fun ls hl => ?_)
                refine lv_goto (tgt := 114) hx hb dL_warmed_188 (by decide) ?_
                exact ih5 (ot + 1) (by omega) _ _ _ _ _ (by omega) (by omega) hP hD hS ls (lv_sub hl [0, 2, 3, 4, 5, 6, 7] rfl)
            · refine lv_if_le (tgt := 138) hx hb dL_warmed_131 (by decide) (fun _ => ?_) (fun c9 => absurd (dry_le w8) c9)
              refine lv_iconst (v := 0) hx hb dL_warmed_138 (by decide) ?_
              refine lv_istore (lv' := [(7, .int 0), (6, .int (nI ot)), (5, .int 1), (4, .int (nI k)), (3, .int (nI (nB V.σ))), (2, .ref ro), (1, .ref b), (0, .ref a.aX)]) hx hb dL_warmed_139 hl (by decide) rfl (fun ls hl => ?_)
              refine lv_aload_n hx hb dL_warmed_141 rfl (lv_at hl 7 rfl) ?_
              refine lv_iload hx hb dL_warmed_142 (lv_at hl 3 rfl) ?_
              refine lv_iload hx hb dL_warmed_144 (lv_at hl 1 rfl) ?_
              refine lq_SW S9 hLF (q_isWarmer_4 l G cy kS vS a V k ot hl9 ho hk9 hot9 w9 w8) (bigSW 3 hts (big_at 18 9 rfl) (big_at 0 2 rfl) (big_at 18 11 rfl) (big_at 18 10 rfl) rfl rfl (by decide +kernel) ⟨Nat.le_of_ble_eq_true rfl, Nat.le_of_ble_eq_true rfl⟩) hP hD hS hA rfl hl.1 rfl (Nat.le_of_ble_eq_true rfl) (MC := 130) ⟨rfl, rfl⟩ (12 * d + 1 * d114 + 46) (by omega) (by omega) dL_warmed_146 (fun u H locs cells slots hc hs hP hD hS => ?_)
              refine lv_iload hx hb dL_warmed_149 (lv_at hl 0 rfl) ?_
              refine lv_if_ne (tgt := 159) hx hb dL_warmed_151 (by decide) (fun c9 => absurd (by decide) c9) (fun _ => ?_)
              refine lv_bipush (v := (-13)) hx hb dL_warmed_154 (by decide) ?_
              refine lv_goto (tgt := 180) hx hb dL_warmed_156 (by decide) ?_
              refine lv_icmp_eq (tgt := 185) hx hb dL_warmed_180 (by decide) (fun _ => ?_) (fun c9 => absurd (by decide) c9)
              refine lv_iinc (v := nI (ot + 1)) (lv' := [(6, .int (nI (ot + 1))), (7, .int 0), (5, .int 1), (4, .int (nI k)), (3, .int (nI (nB V.σ))), (2, .ref ro), (1, .ref b), (0, .ref a.aX)]) hx hb dL_warmed_185 hl (k := 1) rfl (m_inc _) (by decide) rfl (fun ls hl => ?_)
              refine lv_goto (tgt := 114) hx hb dL_warmed_188 (by decide) ?_
              exact ih5 (ot + 1) (by omega) _ _ _ _ _ (by omega) (by omega) hP hD hS ls (lv_sub hl [0, 2, 3, 4, 5, 6, 7] rfl)
        exact L114 (nB V.σ) 0 (by omega) _ _ _ _ _ (by omega) (by omega) hP hD hS ls (lv_sub hl [0, 1, 2, 3, 4, 5, 6] rfl)
      · obtain ⟨v0, h0⟩ := dry_0 hwt hk5 w9
        refine lv_if_le (tgt := 30) hx hb dL_warmed_23 (by decide) (fun _ => ?_) (fun c9 => absurd (dry_le w9) c9)
        refine lv_iconst (v := 0) hx hb dL_warmed_30 (by decide) ?_
        refine lv_istore (lv' := [(5, .int 0), (4, .int (nI k)), (3, .int (nI (nB V.σ))), (2, .ref ro), (1, .ref b), (0, .ref a.aX)]) hx hb dL_warmed_31 hl (by decide) rfl (fun ls hl => ?_)
        refine lv_aload_n hx hb dL_warmed_33 rfl (lv_at hl 5 rfl) ?_
        refine lv_iload hx hb dL_warmed_34 (lv_at hl 1 rfl) ?_
        refine lq_SW S9 hLF (q_temperature_2 l G cy kS vS a V k hl9 ho hk9 w9) (bigSW 2 hts (big_at 17 16 rfl) (big_at 0 2 rfl) (big_at 17 18 rfl) (big_at 17 17 rfl) rfl rfl (by decide +kernel) ⟨Nat.le_of_ble_eq_true rfl, Nat.le_of_ble_eq_true rfl⟩) hP hD hS hA rfl hl.1 rfl (Nat.le_of_ble_eq_true rfl) (MC := 130) ⟨rfl, rfl⟩ (12 * d + 51) (by omega) (by omega) dL_warmed_36 (fun u H locs cells slots hc hs hP hD hS => ?_)
        refine lv_iload hx hb dL_warmed_39 (lv_at hl 0 rfl) ?_
        refine lv_if_eq (tgt := 60) hx hb dL_warmed_41 (by decide) (fun _ => ?_) (fun c9 => absurd (by decide) c9)
        refine lv_bipush (v := (-13)) hx hb dL_warmed_60 (by decide) ?_
        refine lv_icmp_ne (tgt := 109) hx hb dL_warmed_62 (by decide) (fun c9 => absurd (by decide) c9) (fun _ => ?_)
        refine lv_iload hx hb dL_warmed_65 (lv_at hl 0 rfl) ?_
        refine lv_if_eq (tgt := 95) hx hb dL_warmed_67 (by decide) (fun _ => ?_) (fun c9 => absurd (by decide) c9)
        refine lv_iload hx hb dL_warmed_95 (lv_at hl 0 rfl) ?_
        refine lv_if_ne (tgt := 111) hx hb dL_warmed_97 (by decide) (fun c9 => absurd (by decide) c9) (fun _ => ?_)
        refine lv_aload_n hx hb dL_warmed_100 rfl (lv_at hl 3 rfl) ?_
        refine lv_iload hx hb dL_warmed_101 (lv_at hl 1 rfl) ?_
        refine r_row (Wc := [OW cy a V u, rowsW cy ro ra V.σ]) hx hb hK hP 1 rfl k rfl hk9 hN dL_warmed_103 ?_
        refine lv_iconst (v := 1) hx hb dL_warmed_104 (by decide) ?_
        refine r_get (Wc := [OW cy a V u, rowsW cy ro ra V.σ]) (v := hB V.σ k) hx hb hK hP 1 rfl k 1 rfl (by decide) hk9 rfl dL_warmed_105 ?_
        refine lv_if_eq (tgt := 111) hx hb dL_warmed_106 (by decide) (fun _ => ?_) (fun c9 => absurd h0 c9)
        refine lv_iconst (v := 0) hx hb dL_warmed_111 (by decide) ?_
        refine lv_istore (lv' := [(6, .int 0), (5, .int 0), (4, .int (nI k)), (3, .int (nI (nB V.σ))), (2, .ref ro), (1, .ref b), (0, .ref a.aX)]) hx hb dL_warmed_112 hl (by decide) rfl (fun ls hl => ?_)
        have L114 : ∀ (d114 ot : Nat), ot + d114 = nB V.σ → ∀ (u : OU) (H : Heap) (locs : List Loc) (cells slots : Nat), cells + (12 * d + 1 * d114 + 46) ≤ 130 → slots + 64 * (12 * d + 1 * d114 + 46) ≤ 64 * 130 → va_P G vwCl (fl [OW cy a V u, rowsW cy ro ra V.σ]) H → va_D (va_A (OW cy a V u0) s.heap.size) (fl [OW cy a V u, rowsW cy ro ra V.σ]) → va_S (va_A (OW cy a V u0) s.heap.size) s.heap H locs → ∀ ls : Array Slot, lv_has ls 11 [(6, .int (nI ot)), (5, .int 0), (4, .int (nI k)), (3, .int (nI (nB V.σ))), (2, .ref ro), (1, .ref b), (0, .ref a.aX)] → W p l e ({ frames := 14, cells := 130, slots := 64 * 130, locals := 400 } : Room) s m ([.ref a.aX, .ref b] : List Value).toArray below meth cq H locs cells slots (lxZ below ([.ref a.aX, .ref b] : List Value).toArray s G cy a V u0 ((fun V2 r2 => V2 = V ∧ r2 = .int 1)) 130) (F0 m 114 ls []) := by
          intro d114
          induction d114 with
          | zero =>
            intro ot hot u H locs cells slots hc hs hP hD hS ls hl
            have hot9 : ot = nB V.σ := by omega
            subst hot9
            refine lv_iload hx hb dL_warmed_114 (lv_at hl 0 rfl) ?_
            refine lv_iload_n hx hb dL_warmed_116 rfl (lv_at hl 3 rfl) ?_
            refine lv_icmp_ge (tgt := 191) hx hb dL_warmed_117 (by decide) (fun _ => ?_) (fun c9 => absurd (Int32.le_refl _) c9)
            refine lv_iconst (v := 0) hx hb dL_warmed_191 (by decide) ?_
            refine lv_istore (lv' := [(6, .int 0), (5, .int 0), (4, .int (nI k)), (3, .int (nI (nB V.σ))), (2, .ref ro), (1, .ref b), (0, .ref a.aX)]) hx hb dL_warmed_192 hl (by decide) rfl (fun ls hl => ?_)
            have L194 : ∀ (d194 tp : Nat), tp + d194 = 3 → ∀ (u : OU) (H : Heap) (locs : List Loc) (cells slots : Nat), cells + (12 * d + 2 * d194 + 40) ≤ 130 → slots + 64 * (12 * d + 2 * d194 + 40) ≤ 64 * 130 → va_P G vwCl (fl [OW cy a V u, rowsW cy ro ra V.σ]) H → va_D (va_A (OW cy a V u0) s.heap.size) (fl [OW cy a V u, rowsW cy ro ra V.σ]) → va_S (va_A (OW cy a V u0) s.heap.size) s.heap H locs → ∀ ls : Array Slot, lv_has ls 11 [(6, .int (nI tp)), (5, .int 0), (4, .int (nI k)), (3, .int (nI (nB V.σ))), (2, .ref ro), (1, .ref b), (0, .ref a.aX)] → W p l e ({ frames := 14, cells := 130, slots := 64 * 130, locals := 400 } : Room) s m ([.ref a.aX, .ref b] : List Value).toArray below meth cq H locs cells slots (lxZ below ([.ref a.aX, .ref b] : List Value).toArray s G cy a V u0 ((fun V2 r2 => V2 = V ∧ r2 = .int 1)) 130) (F0 m 194 ls []) := by
              intro d194
              induction d194 with
              | zero =>
                intro tp htp u H locs cells slots hc hs hP hD hS ls hl
                have htp9 : tp = 3 := by omega
                have et : tp = 3 := htp9
                subst et
                refine lv_iload hx hb dL_warmed_194 (lv_at hl 0 rfl) ?_
                refine lv_iconst (v := 3) hx hb dL_warmed_196 (by decide) ?_
                refine lv_icmp_ge (tgt := 357) hx hb dL_warmed_197 (by decide) (fun _ => ?_) (fun c9 => absurd (by decide) c9)
                refine lv_iinc (v := nI (k + 1)) (lv' := [(4, .int (nI (k + 1))), (6, .int (nI 3)), (5, .int 0), (3, .int (nI (nB V.σ))), (2, .ref ro), (1, .ref b), (0, .ref a.aX)]) hx hb dL_warmed_357 hl (k := 2) rfl (m_inc _) (by decide) rfl (fun ls hl => ?_)
                refine lv_goto (tgt := 11) hx hb dL_warmed_360 (by decide) ?_
                exact ih (k + 1) (by omega) _ _ _ _ _ (by omega) (by omega) hP hD hS ls (lv_sub hl [0, 3, 4, 5, 6] rfl)
              | succ d194 ih6 =>
                intro tp htp u H locs cells slots hc hs hP hD hS ls hl
                have htp9 : tp < 3 := by omega
                refine lv_iload hx hb dL_warmed_194 (lv_at hl 0 rfl) ?_
                refine lv_iconst (v := 3) hx hb dL_warmed_196 (by decide) ?_
                refine lv_icmp_ge (tgt := 357) hx hb dL_warmed_197 (by decide) (fun c9 => absurd c9 (fun q => absurd ((m_leN (a := 3) (b := tp) rfl rfl (by omega) (by omega)).mp q) (by omega))) (fun _ => ?_)
                refine lv_aload_n hx hb dL_warmed_200 rfl (lv_at hl 5 rfl) ?_
                refine lv_iconst (v := 2) hx hb dL_warmed_201 (by decide) ?_
                refine lv_iload hx hb dL_warmed_202 (lv_at hl 2 rfl) ?_
                refine lv_iadd hx hb dL_warmed_204 ?_
                refine lv_t0 (show (2 + (nI k)) = nI (k + 2) from (Int32.add_comm 2 (nI k)).trans (nI_add k 2)) ?_
                refine m_ro (va_runS S9 (n_cell l G cy b L xs (k + 2) (by omega)) (bigS 2 hts (big_at 5 9 rfl) (big_at 0 2 rfl) (big_at 5 11 rfl) (big_at 5 10 rfl) rfl rfl (by decide +kernel) ⟨Nat.le_of_ble_eq_true rfl, Nat.le_of_ble_eq_true rfl⟩) ⟨fun b2 U g mk q => ⟨q.1, cell_blind U g mk b2 q.2⟩, fun U hU hW => ⟨rfl, cell_at hX hbl hbA hL hS U hU hW⟩⟩ (g := F0 m _ ls _) rfl rfl hl.1 rfl (lv_room (Nat.le_of_ble_eq_true rfl)) dL_warmed_205 ⟨(show _ ≤ 130 by omega), (show _ ≤ 64 * 130 by omega)⟩) ?_
                refine lv_iconst (v := 3) hx hb dL_warmed_208 (by decide) ?_
                obtain ⟨N1, hN1, eN1⟩ := ush_ex (cellF L xs (k + 2)) 3 3 (by decide) (by decide)
                refine lv_iushr (v := nI N1) hx hb dL_warmed_209 eN1 ?_
                refine lv_bipush (v := 100) hx hb dL_warmed_210 (by decide) ?_
                refine lv_irem hx hb dL_warmed_212 (by decide) ?_
                refine lv_t0 (show ((nI N1) - (nI N1) / 100 * 100) = nI (N1 % 100) from rem_n (by omega) (by decide) (by decide)) ?_
                have hg9 : inR (nI (N1 % 100)) 0 99 = true := inR_n (lo := 0) (hi := 99) (Nat.zero_le _) (by omega) (by decide)
                have ht9 : tapB (nI tp) = true := inR_n (lo := 0) (hi := 2) (Nat.zero_le _) (by omega) (by decide)
                refine lv_istore (lv' := [(7, .int (nI (N1 % 100))), (6, .int (nI tp)), (5, .int 0), (4, .int (nI k)), (3, .int (nI (nB V.σ))), (2, .ref ro), (1, .ref b), (0, .ref a.aX)]) hx hb dL_warmed_213 hl (by decide) rfl (fun ls hl => ?_)
                refine lv_iload hx hb dL_warmed_215 (lv_at hl 2 rfl) ?_
                refine lv_if_eq (tgt := 225) hx hb dL_warmed_217 (by decide) (fun _ => ?_) (fun c9 => absurd (by decide) c9)
                refine lv_bipush (v := (-13)) hx hb dL_warmed_225 (by decide) ?_
                refine lv_istore (lv' := [(8, .int (-13)), (7, .int (nI (N1 % 100))), (6, .int (nI tp)), (5, .int 0), (4, .int (nI k)), (3, .int (nI (nB V.σ))), (2, .ref ro), (1, .ref b), (0, .ref a.aX)]) hx hb dL_warmed_227 hl (by decide) rfl (fun ls hl => ?_)
                refine lv_bipush (v := 100) hx hb dL_warmed_229 (by decide) ?_
                refine lv_aload_n hx hb dL_warmed_231 rfl (lv_at hl 6 rfl) ?_
                refine lv_iload hx hb dL_warmed_232 (lv_at hl 4 rfl) ?_
                refine r_row (Wc := [OW cy a V u, rowsW cy ro ra V.σ]) hx hb hK hP 1 rfl k rfl hk9 hN dL_warmed_234 ?_
                refine lv_iconst (v := 0) hx hb dL_warmed_235 (by decide) ?_
                refine r_get (Wc := [OW cy a V u, rowsW cy ro ra V.σ]) (v := vB V.σ k) hx hb hK hP 1 rfl k 0 rfl (by decide) hk9 rfl dL_warmed_236 ?_
                refine lv_isub hx hb dL_warmed_237 ?_
                refine lv_istore (lv' := [(9, .int (100 - (vB V.σ k))), (8, .int (-13)), (7, .int (nI (N1 % 100))), (6, .int (nI tp)), (5, .int 0), (4, .int (nI k)), (3, .int (nI (nB V.σ))), (2, .ref ro), (1, .ref b), (0, .ref a.aX)]) hx hb dL_warmed_238 hl (by decide) rfl (fun ls hl => ?_)
                refine lv_iload hx hb dL_warmed_240 (lv_at hl 0 rfl) ?_
                refine lv_if_lt (tgt := 319) hx hb dL_warmed_242 (by decide) (fun c9 => absurd c9 (by rw [v0]; decide)) (fun _ => ?_)
                refine lv_iload hx hb dL_warmed_245 (lv_at hl 4 rfl) ?_
                refine lv_if_eq (tgt := 319) hx hb dL_warmed_247 (by decide) (fun _ => ?_) (fun c9 => absurd (by decide) c9)
                refine lv_aload_n hx hb dL_warmed_319 rfl (lv_at hl 9 rfl) ?_
                refine lv_iload hx hb dL_warmed_320 (lv_at hl 5 rfl) ?_
                refine lv_iload hx hb dL_warmed_322 (lv_at hl 3 rfl) ?_
                refine lv_iload hx hb dL_warmed_324 (lv_at hl 2 rfl) ?_
                refine lq_SW S9 hLF (q_litres_3 l G cy kS vS a V k (nI tp) (nI (N1 % 100)) hl9 ho hk9 ht9 hg9 w9) (bigSW 4 hts (big_at 18 20 rfl) (big_at 0 2 rfl) (big_at 18 22 rfl) (big_at 18 21 rfl) rfl rfl (by decide +kernel) ⟨Nat.le_of_ble_eq_true rfl, Nat.le_of_ble_eq_true rfl⟩) hP hD hS hA rfl hl.1 rfl (Nat.le_of_ble_eq_true rfl) (MC := 130) ⟨rfl, rfl⟩ (12 * d + 2 * d194 + 41) (by omega) (by omega) dL_warmed_326 (fun u H locs cells slots hc hs hP hD hS => ?_)
                refine lv_iload hx hb dL_warmed_329 (lv_at hl 1 rfl) ?_
                refine lv_icmp_ne (tgt := 349) hx hb dL_warmed_331 (by decide) (fun c9 => absurd (by decide) c9) (fun _ => ?_)
                refine lv_aload_n hx hb dL_warmed_334 rfl (lv_at hl 9 rfl) ?_
                refine lv_iload hx hb dL_warmed_335 (lv_at hl 5 rfl) ?_
                refine lv_iload hx hb dL_warmed_337 (lv_at hl 3 rfl) ?_
                refine lv_iload hx hb dL_warmed_339 (lv_at hl 2 rfl) ?_
                refine lq_SW S9 hLF (q_byFormula_3 l G cy kS vS a V k (nI tp) (nI (N1 % 100)) hl9 ho hk9 ht9 hg9 w9) (bigSW 4 hts (big_at 19 16 rfl) (big_at 0 2 rfl) (big_at 19 18 rfl) (big_at 19 17 rfl) rfl rfl (by decide +kernel) ⟨Nat.le_of_ble_eq_true rfl, Nat.le_of_ble_eq_true rfl⟩) hP hD hS hA rfl hl.1 rfl (Nat.le_of_ble_eq_true rfl) (MC := 130) ⟨rfl, rfl⟩ (12 * d + 2 * d194 + 40) (by omega) (by omega) dL_warmed_341 (fun u H locs cells slots hc hs hP hD hS => ?_)
                refine lv_iload hx hb dL_warmed_344 (lv_at hl 1 rfl) ?_
                refine lv_icmp_eq (tgt := 351) hx hb dL_warmed_346 (by decide) (fun _ => ?_) (fun c9 => absurd (by decide) c9)
                refine lv_iinc (v := nI (tp + 1)) (lv' := [(6, .int (nI (tp + 1))), (9, .int (100 - (vB V.σ k))), (8, .int (-13)), (7, .int (nI (N1 % 100))), (5, .int 0), (4, .int (nI k)), (3, .int (nI (nB V.σ))), (2, .ref ro), (1, .ref b), (0, .ref a.aX)]) hx hb dL_warmed_351 hl (k := 3) rfl (m_inc _) (by decide) rfl (fun ls hl => ?_)
                refine lv_goto (tgt := 194) hx hb dL_warmed_354 (by decide) ?_
                exact ih6 (tp + 1) (by omega) _ _ _ _ _ (by omega) (by omega) hP hD hS ls (lv_sub hl [0, 4, 5, 6, 7, 8, 9] rfl)
            exact L194 (3) 0 (by omega) _ _ _ _ _ (by omega) (by omega) hP hD hS ls (lv_sub hl [0, 1, 2, 3, 4, 5, 6] rfl)
          | succ d114 ih5 =>
            intro ot hot u H locs cells slots hc hs hP hD hS ls hl
            have hot9 : ot < nB V.σ := by omega
            refine lv_iload hx hb dL_warmed_114 (lv_at hl 0 rfl) ?_
            refine lv_iload_n hx hb dL_warmed_116 rfl (lv_at hl 3 rfl) ?_
            refine lv_icmp_ge (tgt := 191) hx hb dL_warmed_117 (by decide) (fun c9 => absurd c9 (fun q => absurd ((nI_leI (by omega) (by omega)).mp q) (by omega))) (fun _ => ?_)
            refine lv_iload hx hb dL_warmed_120 (lv_at hl 1 rfl) ?_
            refine lv_if_eq (tgt := 138) hx hb dL_warmed_122 (by decide) (fun _ => ?_) (fun c9 => absurd (by decide) c9)
            refine lv_iconst (v := 0) hx hb dL_warmed_138 (by decide) ?_
            refine lv_istore (lv' := [(7, .int 0), (6, .int (nI ot)), (5, .int 0), (4, .int (nI k)), (3, .int (nI (nB V.σ))), (2, .ref ro), (1, .ref b), (0, .ref a.aX)]) hx hb dL_warmed_139 hl (by decide) rfl (fun ls hl => ?_)
            refine lv_aload_n hx hb dL_warmed_141 rfl (lv_at hl 7 rfl) ?_
            refine lv_iload hx hb dL_warmed_142 (lv_at hl 3 rfl) ?_
            refine lv_iload hx hb dL_warmed_144 (lv_at hl 1 rfl) ?_
            refine lq_SW S9 hLF (q_isWarmer_3 l G cy kS vS a V k ot hl9 ho hk9 hot9 w9) (bigSW 3 hts (big_at 18 9 rfl) (big_at 0 2 rfl) (big_at 18 11 rfl) (big_at 18 10 rfl) rfl rfl (by decide +kernel) ⟨Nat.le_of_ble_eq_true rfl, Nat.le_of_ble_eq_true rfl⟩) hP hD hS hA rfl hl.1 rfl (Nat.le_of_ble_eq_true rfl) (MC := 130) ⟨rfl, rfl⟩ (12 * d + 1 * d114 + 46) (by omega) (by omega) dL_warmed_146 (fun u H locs cells slots hc hs hP hD hS => ?_)
            refine lv_iload hx hb dL_warmed_149 (lv_at hl 0 rfl) ?_
            refine lv_if_ne (tgt := 159) hx hb dL_warmed_151 (by decide) (fun c9 => absurd (by decide) c9) (fun _ => ?_)
            refine lv_bipush (v := (-13)) hx hb dL_warmed_154 (by decide) ?_
            refine lv_goto (tgt := 180) hx hb dL_warmed_156 (by decide) ?_
            refine lv_icmp_eq (tgt := 185) hx hb dL_warmed_180 (by decide) (fun _ => ?_) (fun c9 => absurd (by decide) c9)
            refine lv_iinc (v := nI (ot + 1)) (lv' := [(6, .int (nI (ot + 1))), (7, .int 0), (5, .int 0), (4, .int (nI k)), (3, .int (nI (nB V.σ))), (2, .ref ro), (1, .ref b), (0, .ref a.aX)]) hx hb dL_warmed_185 hl (k := 1) rfl (m_inc _) (by decide) rfl (fun ls hl => ?_)
            refine lv_goto (tgt := 114) hx hb dL_warmed_188 (by decide) ?_
            exact ih5 (ot + 1) (by omega) _ _ _ _ _ (by omega) (by omega) hP hD hS ls (lv_sub hl [0, 2, 3, 4, 5, 6, 7] rfl)
        exact L114 (nB V.σ) 0 (by omega) _ _ _ _ _ (by omega) (by omega) hP hD hS ls (lv_sub hl [0, 1, 2, 3, 4, 5, 6] rfl)
  exact L11 (nB V.σ) 0 (by omega) _ _ _ _ _ (by omega) (by omega) hP hD hS ls (lv_sub hl [0, 1, 2, 4, 3] rfl)
