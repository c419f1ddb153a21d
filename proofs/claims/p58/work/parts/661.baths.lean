/-! the rows that the law makes -/
theorem va_up_row {g : Nat → Option Nat} {ra : Nat → Nat} {k q : Nat} (hg : ∀ i, i < k → g i = some (ra i)) : ∀ i, i < k + 1 → va_up g k (some q) i = some (if i = k then q else ra i) := by
  intro i hi
  unfold va_up
  by_cases z9 : i = k
  · rw [if_pos z9, if_pos z9]
  · rw [if_neg z9, if_neg z9]
    exact hg i (by omega)
set_option maxRecDepth 100000 in
set_option maxHeartbeats 2000000 in
theorem n_baths (l : Launch) (G : va_G) (cy : Nat → ClassId) (kS vS : Nat → Nat) (a : OA) (V : OV) (n0 : Nat) (hI : Inv n0 V.σ) : LB l 11 250 G cy kS vS a V := by
  refine LB.ofW (cc := cL_baths) (maxL := 4) (ret := (some (.array (.array .int)))) (big_at 16 10 rfl) (Nat.le_of_ble_eq_true rfl) ?_
  intro p e s m below meth cq u0 S9 hr hlocks hPQ hD hS hA ls hl
  obtain ⟨hx, hb, hml, hown, hts⟩ := id S9
  have hLF := LF.mk hPQ
  have hK := hLF.1
  have hP : va_P G vwCl (fl [OW cy a V u0]) s.heap := hPQ.1.1
  have hD : va_D (va_A (OW cy a V u0) s.heap.size) (fl [OW cy a V u0]) := hD
  have hc : 0 + 11 ≤ 11 := Nat.le_of_ble_eq_true rfl
  have hs : 0 + 64 * 11 ≤ 64 * 11 := Nat.le_of_ble_eq_true rfl
  have hl : lv_has ls 4 [(0, .ref a.aX)] := hl
  have ho := hI.1
  have hN := ho.1
  have hp01 : ∀ j, j < 5 → pB V.σ j = 0 ∨ pB V.σ j = 1 := fun j hj => vp_narZ (ho.2.2.2.2.1 j hj)
  have hAA := hLF.2.2.2.2.2.1
  refine lv_aload_n hx hb dL_baths_0 rfl (lv_at hl 0 rfl) ?_
  refine lq_V S9 hLF (d_bathCount l G cy kS vS a V ho) (bigV 0 hts (big_at 16 12 rfl) (big_at 0 6 rfl) (big_at 16 15 rfl) (big_at 16 13 rfl) (big_at 16 14 rfl) rfl rfl (by decide +kernel) ⟨Nat.le_of_ble_eq_true rfl, Nat.le_of_ble_eq_true rfl⟩) hP hD hS hA rfl hl.1 rfl (Nat.le_of_ble_eq_true rfl) (MC := 11) ⟨rfl, rfl⟩ (11) (by omega) (by omega) dL_baths_1 (fun u H locs cells slots hc hs hP hD hS => ?_)
  refine lv_iconst (v := 4) hx hb dL_baths_4 (by decide) ?_
  have hcl : (Cond.classLink RL 185 ("[" ++ (FieldType.array FieldType.int).toString)).before _ s = true := (by rw [show "[" ++ (FieldType.array FieldType.int).toString = "[[I" from by decide]; exact hts _ (big_at 16 11 rfl))
  have hcy : s.vm.findClass (FieldType.array FieldType.int).toString = some (cy 2) := (hK.1.2 2 (cy 2, .int) rfl).2
  refine va_mna (X := fl [OW cy a V u]) (L := []) (f := fun _ => .inl (cy 2, 4, .inl (fun _ => 0))) (cy := cy 2) (N' := nB V.σ) (K' := 4) (z := (4, .inl (fun _ => 0))) hx hb hown hcl hAA (hts (.arrayClass .int) (big_at 2 9 rfl)) hcy hK.1 (by rw [show va_pl [] (fun _ => (.inl (cy 2, 4, .inl (fun _ => 0)) : va_E)) = [] from rfl, List.append_nil]; exact hP) (by rw [show va_pl [] (fun _ => (.inl (cy 2, 4, .inl (fun _ => 0)) : va_E)) = [] from rfl, List.append_nil]; exact hD) hS hA (fun z => by rw [Int32.lt_iff_toInt_lt, nI_toInt (by omega), Int32.toInt_zero] at z; omega) (by decide) (nI_clamp (by omega)) (by decide) (by omega) (Nat.le_of_ble_eq_true rfl) (Nat.le_of_ble_eq_true rfl) rfl rfl (show _ ≤ 11 by omega) (show _ ≤ 704 by omega) (fun c => arrV_new c 4 (.int 0)) dL_baths_5 (fun ro r cA H hr1 hr2 hK1 hP hD hS => ?_)
  have eA := KK.arr hK1 (k := 6) rfl
  subst eA
  have hP := left_P hP
  have hD := left_D hD
  rw [fl_snoc] at hP hD
  have hc2 : cells + 1 + nB V.σ + 5 ≤ 11 := by omega
  have hs2 : slots + nB V.σ + nB V.σ * 4 + 64 * 5 ≤ 64 * 11 := by omega
  have e0 : fl [OW cy a V u, [(ro, .inl (cy 6, nB V.σ, .inr (.inr (.inr (.inr (fun i => if i < nB V.σ then some (r i) else none))))))], rowA cy r V.σ 0] = fl [OW cy a V u, [(ro, .inl (cy 6, nB V.σ, .inr (.inr (.inr (.inr (fun i => if i < nB V.σ then some (r i) else none))))))]] := by rw [fl_eq, fl_eq]; simp [rowA]
  have hP : va_P G vwCl (fl [OW cy a V u, [(ro, .inl (cy 6, nB V.σ, .inr (.inr (.inr (.inr (fun i => if i < nB V.σ then some (r i) else none))))))], rowA cy r V.σ 0]) H := by rw [e0]; exact hP
  have hD : va_D (va_A (OW cy a V u0) s.heap.size) (fl [OW cy a V u, [(ro, .inl (cy 6, nB V.σ, .inr (.inr (.inr (.inr (fun i => if i < nB V.σ then some (r i) else none))))))], rowA cy r V.σ 0]) := by rw [e0]; exact hD
  refine lv_astore_n (lv' := [(1, .ref ro), (0, .ref a.aX)]) hx hb dL_baths_9 rfl hl (by decide) rfl (fun ls hl => ?_)
  refine lv_iconst (v := 0) hx hb dL_baths_10 (by decide) ?_
  refine lv_istore_n (lv' := [(2, .int 0), (1, .ref ro), (0, .ref a.aX)]) hx hb dL_baths_11 rfl hl (by decide) rfl (fun ls hl => ?_)
  have L12 : ∀ (d k : Nat), k + d = nB V.σ → ∀ (u : OU) (g : Nat → Option Nat) (ra : Nat → Nat) (H : Heap) (locs : List Loc) (cells slots : Nat), (∀ i, i < k → g i = some (ra i)) → cells + (1 * d + 0) ≤ 11 → slots + 64 * (1 * d + 0) ≤ 64 * 11 → va_P G vwCl (fl [OW cy a V u, [(ro, .inl (cy 6, nB V.σ, .inr (.inr (.inr (.inr g)))))], rowA cy ra V.σ k]) H → va_D (va_A (OW cy a V u0) s.heap.size) (fl [OW cy a V u, [(ro, .inl (cy 6, nB V.σ, .inr (.inr (.inr (.inr g)))))], rowA cy ra V.σ k]) → va_S (va_A (OW cy a V u0) s.heap.size) s.heap H locs → ∀ ls : Array Slot, lv_has ls 4 [(2, .int (nI k)), (1, .ref ro), (0, .ref a.aX)] → W p l e ({ frames := 11, cells := 11, slots := 704, locals := 250 } : Room) s m ([.ref a.aX] : List Value).toArray below meth cq H locs cells slots (lbZ below ([.ref a.aX] : List Value).toArray s G cy a V u0) (F0 m 12 ls []) := by
    intro d
    induction d with
    | zero =>
      intro k hk u g ra H locs cells slots hg hc hs hP hD hS ls hl
      have hk9 : k = nB V.σ := by omega
      subst hk9
      refine lv_iload_n hx hb dL_baths_12 rfl (lv_at hl 0 rfl) ?_
      refine lv_aload_n hx hb dL_baths_13 rfl (lv_at hl 1 rfl) ?_
      refine va_alen hx hb hK.1 hP _ 6 ((fl_at (Wc := [OW cy a V u, [(ro, .inl (cy 6, nB V.σ, .inr (.inr (.inr (.inr g)))))], rowA cy ra V.σ (nB V.σ)]) (j := 1) rfl (show 0 < 1 from Nat.one_pos)).trans rfl) rfl rfl dL_baths_14 ?_
      refine lv_icmp_ge (tgt := 80) hx hb dL_baths_15 (by decide) (fun _ => ?_) (fun c9 => absurd (Int32.le_refl _) c9)
      refine lv_aload_n hx hb dL_baths_80 rfl (lv_at hl 1 rfl) ?_
      have hP2 : va_P G vwCl (fl [OW cy a V u, rowsW cy ro ra V.σ]) H := P_cell (A := OW cy a V u) (R := rowA cy ra V.σ (nB V.σ)) (x := (nB V.σ, .inr (.inr (.inr (.inr g))))) (y := (nB V.σ, .inr (.inr (.inr (.inr (fun k => some (ra k))))))) (by rw [vp_cell_q, vp_cell_q]; exact arrV_ext (fun j hj => by rw [hg j hj])) hP
      have hD2 : va_D (va_A (OW cy a V u0) s.heap.size) (fl [OW cy a V u, rowsW cy ro ra V.σ]) := m_Dsame (ws := fl [OW cy a V u, [(ro, .inl (cy 6, nB V.σ, .inr (.inr (.inr (.inr g)))))], rowA cy ra V.σ (nB V.σ)]) hD rfl
      exact W.widen (show cells ≤ 11 by omega) (show slots ≤ 704 by omega) (W.aret hx hb hr (Or.inr ⟨_, rfl⟩) (Or.inr ⟨_, rfl⟩) (fun t ht _ => ⟨u, ro, ra, rfl, by rw [ht]; exact hP2, hD2, hS.F ht⟩) hS.2.2 dL_baths_81 hlocks)
    | succ d ih =>
      intro k hk u g ra H locs cells slots hg hc hs hP hD hS ls hl
      have hk9 : k < nB V.σ := by omega
      refine lv_iload_n hx hb dL_baths_12 rfl (lv_at hl 0 rfl) ?_
      refine lv_aload_n hx hb dL_baths_13 rfl (lv_at hl 1 rfl) ?_
      refine va_alen hx hb hK.1 hP _ 6 ((fl_at (Wc := [OW cy a V u, [(ro, .inl (cy 6, nB V.σ, .inr (.inr (.inr (.inr g)))))], rowA cy ra V.σ k]) (j := 1) rfl (show 0 < 1 from Nat.one_pos)).trans rfl) rfl rfl dL_baths_14 ?_
      refine lv_icmp_ge (tgt := 80) hx hb dL_baths_15 (by decide) (fun c9 => absurd c9 (fun q => absurd ((nI_leI (by omega) (by omega)).mp q) (by omega))) (fun _ => ?_)
      refine lv_iconst (v := 4) hx hb dL_baths_18 (by decide) ?_
      refine c_newa (Wc := [OW cy a V u, [(ro, .inl (cy 6, nB V.σ, .inr (.inr (.inr (.inr g)))))], rowA cy ra V.σ k]) (atype := .int) (ty := .int) (a0 := (4, .inl (fun _ => 0))) hx hb (hts _ (big_at 2 9 rfl)) rfl hK 2 rfl hP hD hS hA 4 (fun _ => rfl) rfl (by decide) (Nat.le_of_ble_eq_true rfl) (MC := 11) ⟨rfl, rfl⟩ (1 * d + 0) (by omega) (by omega) dL_baths_19 (fun q2 H cells slots hc hs hP hD hS => ?_)
      have hP : va_P G vwCl (fl [OW cy a V u, [(ro, .inl (cy 6, nB V.σ, .inr (.inr (.inr (.inr g)))))], rowA cy ra V.σ k, [(q2, .inl (cy 2, 4, .inl (fun _ => 0)))]]) H := hP
      have hD : va_D (va_A (OW cy a V u0) s.heap.size) (fl [OW cy a V u, [(ro, .inl (cy 6, nB V.σ, .inr (.inr (.inr (.inr g)))))], rowA cy ra V.σ k, [(q2, .inl (cy 2, 4, .inl (fun _ => 0)))]]) := hD
      refine lv_dup hx hb dL_baths_21 rfl ?_
      refine lv_iconst (v := 0) hx hb dL_baths_22 (by decide) ?_
      refine lv_aload_n hx hb dL_baths_23 rfl (lv_at hl 2 rfl) ?_
      refine lv_iload_n hx hb dL_baths_24 rfl (lv_at hl 0 rfl) ?_
      refine lq_V S9 hLF (d_volume l G cy kS vS a V k ho hk9) (bigV 1 hts (big_at 16 17 rfl) (big_at 0 6 rfl) (big_at 16 20 rfl) (big_at 16 18 rfl) (big_at 16 19 rfl) rfl rfl (by decide +kernel) ⟨Nat.le_of_ble_eq_true rfl, Nat.le_of_ble_eq_true rfl⟩) hP hD hS hA rfl hl.1 rfl (Nat.le_of_ble_eq_true rfl) (MC := 11) ⟨rfl, rfl⟩ (1 * d + 0) (by omega) (by omega) dL_baths_25 (fun u H locs cells slots hc hs hP hD hS => ?_)
      refine c_iast (Wc := [OW cy a V u, [(ro, .inl (cy 6, nB V.σ, .inr (.inr (.inr (.inr g)))))], rowA cy ra V.σ k, [(q2, .inl (cy 2, 4, .inl (fun _ => 0)))]]) (Wn := [OW cy a V u, [(ro, .inl (cy 6, nB V.σ, .inr (.inr (.inr (.inr g)))))], rowA cy ra V.σ k, [(q2, .inl (cy 2, 4, .inl (upd (fun _ => 0) 0 (vB V.σ k))))]]) hx hb hK hP hD hS 3 rfl 0 rfl (by decide) (Nat.le_of_ble_eq_true rfl) rfl dL_baths_28 (fun H locs hP hD hS => ?_)
      refine lv_dup hx hb dL_baths_29 rfl ?_
      refine lv_iconst (v := 1) hx hb dL_baths_30 (by decide) ?_
      refine lv_aload_n hx hb dL_baths_31 rfl (lv_at hl 2 rfl) ?_
      refine lv_iload_n hx hb dL_baths_32 rfl (lv_at hl 0 rfl) ?_
      refine lq_V S9 hLF (d_heat l G cy kS vS a V k ho hk9) (bigV 1 hts (big_at 17 2 rfl) (big_at 0 6 rfl) (big_at 17 5 rfl) (big_at 17 3 rfl) (big_at 17 4 rfl) rfl rfl (by decide +kernel) ⟨Nat.le_of_ble_eq_true rfl, Nat.le_of_ble_eq_true rfl⟩) hP hD hS hA rfl hl.1 rfl (Nat.le_of_ble_eq_true rfl) (MC := 11) ⟨rfl, rfl⟩ (1 * d + 0) (by omega) (by omega) dL_baths_33 (fun u H locs cells slots hc hs hP hD hS => ?_)
      refine c_iast (Wc := [OW cy a V u, [(ro, .inl (cy 6, nB V.σ, .inr (.inr (.inr (.inr g)))))], rowA cy ra V.σ k, [(q2, .inl (cy 2, 4, .inl (upd (fun _ => 0) 0 (vB V.σ k))))]]) (Wn := [OW cy a V u, [(ro, .inl (cy 6, nB V.σ, .inr (.inr (.inr (.inr g)))))], rowA cy ra V.σ k, [(q2, .inl (cy 2, 4, .inl (upd (upd (fun _ => 0) 0 (vB V.σ k)) 1 (hB V.σ k))))]]) hx hb hK hP hD hS 3 rfl 1 rfl (by decide) (Nat.le_of_ble_eq_true rfl) rfl dL_baths_36 (fun H locs hP hD hS => ?_)
      refine lv_dup hx hb dL_baths_37 rfl ?_
      refine lv_iconst (v := 2) hx hb dL_baths_38 (by decide) ?_
      refine lv_aload_n hx hb dL_baths_39 rfl (lv_at hl 2 rfl) ?_
      refine lv_iload_n hx hb dL_baths_40 rfl (lv_at hl 0 rfl) ?_
      refine lq_V S9 hLF (d_isPlugged l G cy kS vS a V k ho hk9) (bigV 1 hts (big_at 17 7 rfl) (big_at 0 6 rfl) (big_at 17 10 rfl) (big_at 17 8 rfl) (big_at 17 9 rfl) rfl rfl (by decide +kernel) ⟨Nat.le_of_ble_eq_true rfl, Nat.le_of_ble_eq_true rfl⟩) hP hD hS hA rfl hl.1 rfl (Nat.le_of_ble_eq_true rfl) (MC := 11) ⟨rfl, rfl⟩ (1 * d + 0) (by omega) (by omega) dL_baths_41 (fun u H locs cells slots hc hs hP hD hS => ?_)
      rcases hp01 k (by omega) with p9 | p9
      · refine lv_if_eq (tgt := 51) hx hb dL_baths_44 (by decide) (fun _ => ?_) (fun c9 => absurd p9 c9)
        refine lv_iconst (v := 0) hx hb dL_baths_51 (by decide) ?_
        refine c_iast (Wc := [OW cy a V u, [(ro, .inl (cy 6, nB V.σ, .inr (.inr (.inr (.inr g)))))], rowA cy ra V.σ k, [(q2, .inl (cy 2, 4, .inl (upd (upd (fun _ => 0) 0 (vB V.σ k)) 1 (hB V.σ k))))]]) (Wn := [OW cy a V u, [(ro, .inl (cy 6, nB V.σ, .inr (.inr (.inr (.inr g)))))], rowA cy ra V.σ k, [(q2, .inl (cy 2, 4, .inl (upd (upd (upd (fun _ => 0) 0 (vB V.σ k)) 1 (hB V.σ k)) 2 0)))]]) hx hb hK hP hD hS 3 rfl 2 rfl (by decide) (Nat.le_of_ble_eq_true rfl) rfl dL_baths_52 (fun H locs hP hD hS => ?_)
        refine lv_dup hx hb dL_baths_53 rfl ?_
        refine lv_iconst (v := 3) hx hb dL_baths_54 (by decide) ?_
        refine lv_aload_n hx hb dL_baths_55 rfl (lv_at hl 2 rfl) ?_
        refine lv_iload_n hx hb dL_baths_56 rfl (lv_at hl 0 rfl) ?_
        refine lq_V S9 hLF (d_isMember l G cy kS vS a V k ho hk9) (bigV 1 hts (big_at 17 11 rfl) (big_at 0 6 rfl) (big_at 17 14 rfl) (big_at 17 12 rfl) (big_at 17 13 rfl) rfl rfl (by decide +kernel) ⟨Nat.le_of_ble_eq_true rfl, Nat.le_of_ble_eq_true rfl⟩) hP hD hS hA rfl hl.1 rfl (Nat.le_of_ble_eq_true rfl) (MC := 11) ⟨rfl, rfl⟩ (1 * d + 0) (by omega) (by omega) dL_baths_57 (fun u H locs cells slots hc hs hP hD hS => ?_)
        rcases ho.m01 k (by omega) with m9 | m9
        · refine lv_if_eq (tgt := 67) hx hb dL_baths_60 (by decide) (fun _ => ?_) (fun c9 => absurd m9 c9)
          refine lv_iconst (v := 0) hx hb dL_baths_67 (by decide) ?_
          refine c_iast (Wc := [OW cy a V u, [(ro, .inl (cy 6, nB V.σ, .inr (.inr (.inr (.inr g)))))], rowA cy ra V.σ k, [(q2, .inl (cy 2, 4, .inl (upd (upd (upd (fun _ => 0) 0 (vB V.σ k)) 1 (hB V.σ k)) 2 0)))]]) (Wn := [OW cy a V u, [(ro, .inl (cy 6, nB V.σ, .inr (.inr (.inr (.inr g)))))], rowA cy ra V.σ k, [(q2, .inl (cy 2, 4, .inl (upd (upd (upd (upd (fun _ => 0) 0 (vB V.σ k)) 1 (hB V.σ k)) 2 0) 3 0)))]]) hx hb hK hP hD hS 3 rfl 3 rfl (by decide) (Nat.le_of_ble_eq_true rfl) rfl dL_baths_68 (fun H locs hP hD hS => ?_)
          refine lv_astore_n (lv' := [(3, .ref q2), (2, .int (nI k)), (1, .ref ro), (0, .ref a.aX)]) hx hb dL_baths_69 rfl hl (by decide) rfl (fun ls hl => ?_)
          refine lv_aload_n hx hb dL_baths_70 rfl (lv_at hl 2 rfl) ?_
          refine lv_iload_n hx hb dL_baths_71 rfl (lv_at hl 1 rfl) ?_
          refine lv_aload_n hx hb dL_baths_72 rfl (lv_at hl 0 rfl) ?_
          refine c_aast (Wc := [OW cy a V u, [(ro, .inl (cy 6, nB V.σ, .inr (.inr (.inr (.inr g)))))], rowA cy ra V.σ k, [(q2, .inl (cy 2, 4, .inl (upd (upd (upd (upd (fun _ => 0) 0 (vB V.σ k)) 1 (hB V.σ k)) 2 0) 3 0)))]]) (Wn := [OW cy a V u, [(ro, .inl (cy 6, nB V.σ, .inr (.inr (.inr (.inr (va_up g k (some q2)))))))], rowA cy ra V.σ k, [(q2, .inl (cy 2, 4, .inl (upd (upd (upd (upd (fun _ => 0) 0 (vB V.σ k)) 1 (hB V.σ k)) 2 0) 3 0)))]]) hx hb hK hAA hP hD hS 1 3 rfl rfl k rfl hk9 (by omega) rfl dL_baths_73 (fun H locs hP hD hS => ?_)
          have eW : fl [OW cy a V u, [(ro, .inl (cy 6, nB V.σ, .inr (.inr (.inr (.inr (va_up g k (some q2)))))))], rowA cy ra V.σ k, [(q2, .inl (cy 2, 4, .inl (upd (upd (upd (upd (fun _ => 0) 0 (vB V.σ k)) 1 (hB V.σ k)) 2 0) 3 0)))]] = fl [OW cy a V u, [(ro, .inl (cy 6, nB V.σ, .inr (.inr (.inr (.inr (va_up g k (some q2)))))))], rowA cy (fun i => if i = k then q2 else ra i) V.σ (k + 1)] := by rw [row_mk p9 m9, ← rowA_snoc, fl_eq, fl_eq]; simp only [List.flatten_cons, List.flatten_nil, List.append_nil, List.append_assoc]
          rw [eW] at hP hD
          refine lv_iinc (v := nI (k + 1)) (lv' := [(2, .int (nI (k + 1))), (3, .ref q2), (1, .ref ro), (0, .ref a.aX)]) hx hb dL_baths_74 hl (k := 1) rfl (m_inc _) (by decide) rfl (fun ls hl => ?_)
          refine lv_goto (tgt := 12) hx hb dL_baths_77 (by decide) ?_
          exact ih (k + 1) (by omega) _ (va_up g k (some q2)) (fun i => if i = k then q2 else ra i) _ _ _ _ (va_up_row hg) (by omega) (by omega) hP hD hS ls (lv_sub hl [0, 2, 3] rfl)
        · refine lv_if_eq (tgt := 67) hx hb dL_baths_60 (by decide) (fun c9 => absurd c9 (by rw [m9]; decide)) (fun _ => ?_)
          refine lv_iconst (v := 1) hx hb dL_baths_63 (by decide) ?_
          refine lv_goto (tgt := 68) hx hb dL_baths_64 (by decide) ?_
          refine c_iast (Wc := [OW cy a V u, [(ro, .inl (cy 6, nB V.σ, .inr (.inr (.inr (.inr g)))))], rowA cy ra V.σ k, [(q2, .inl (cy 2, 4, .inl (upd (upd (upd (fun _ => 0) 0 (vB V.σ k)) 1 (hB V.σ k)) 2 0)))]]) (Wn := [OW cy a V u, [(ro, .inl (cy 6, nB V.σ, .inr (.inr (.inr (.inr g)))))], rowA cy ra V.σ k, [(q2, .inl (cy 2, 4, .inl (upd (upd (upd (upd (fun _ => 0) 0 (vB V.σ k)) 1 (hB V.σ k)) 2 0) 3 1)))]]) hx hb hK hP hD hS 3 rfl 3 rfl (by decide) (Nat.le_of_ble_eq_true rfl) rfl dL_baths_68 (fun H locs hP hD hS => ?_)
          refine lv_astore_n (lv' := [(3, .ref q2), (2, .int (nI k)), (1, .ref ro), (0, .ref a.aX)]) hx hb dL_baths_69 rfl hl (by decide) rfl (fun ls hl => ?_)
          refine lv_aload_n hx hb dL_baths_70 rfl (lv_at hl 2 rfl) ?_
          refine lv_iload_n hx hb dL_baths_71 rfl (lv_at hl 1 rfl) ?_
          refine lv_aload_n hx hb dL_baths_72 rfl (lv_at hl 0 rfl) ?_
          refine c_aast (Wc := [OW cy a V u, [(ro, .inl (cy 6, nB V.σ, .inr (.inr (.inr (.inr g)))))], rowA cy ra V.σ k, [(q2, .inl (cy 2, 4, .inl (upd (upd (upd (upd (fun _ => 0) 0 (vB V.σ k)) 1 (hB V.σ k)) 2 0) 3 1)))]]) (Wn := [OW cy a V u, [(ro, .inl (cy 6, nB V.σ, .inr (.inr (.inr (.inr (va_up g k (some q2)))))))], rowA cy ra V.σ k, [(q2, .inl (cy 2, 4, .inl (upd (upd (upd (upd (fun _ => 0) 0 (vB V.σ k)) 1 (hB V.σ k)) 2 0) 3 1)))]]) hx hb hK hAA hP hD hS 1 3 rfl rfl k rfl hk9 (by omega) rfl dL_baths_73 (fun H locs hP hD hS => ?_)
          have eW : fl [OW cy a V u, [(ro, .inl (cy 6, nB V.σ, .inr (.inr (.inr (.inr (va_up g k (some q2)))))))], rowA cy ra V.σ k, [(q2, .inl (cy 2, 4, .inl (upd (upd (upd (upd (fun _ => 0) 0 (vB V.σ k)) 1 (hB V.σ k)) 2 0) 3 1)))]] = fl [OW cy a V u, [(ro, .inl (cy 6, nB V.σ, .inr (.inr (.inr (.inr (va_up g k (some q2)))))))], rowA cy (fun i => if i = k then q2 else ra i) V.σ (k + 1)] := by rw [row_mk p9 m9, ← rowA_snoc, fl_eq, fl_eq]; simp only [List.flatten_cons, List.flatten_nil, List.append_nil, List.append_assoc]
          rw [eW] at hP hD
          refine lv_iinc (v := nI (k + 1)) (lv' := [(2, .int (nI (k + 1))), (3, .ref q2), (1, .ref ro), (0, .ref a.aX)]) hx hb dL_baths_74 hl (k := 1) rfl (m_inc _) (by decide) rfl (fun ls hl => ?_)
          refine lv_goto (tgt := 12) hx hb dL_baths_77 (by decide) ?_
          exact ih (k + 1) (by omega) _ (va_up g k (some q2)) (fun i => if i = k then q2 else ra i) _ _ _ _ (va_up_row hg) (by omega) (by omega) hP hD hS ls (lv_sub hl [0, 2, 3] rfl)
      · refine lv_if_eq (tgt := 51) hx hb dL_baths_44 (by decide) (fun c9 => absurd c9 (by rw [p9]; decide)) (fun _ => ?_)
        refine lv_iconst (v := 1) hx hb dL_baths_47 (by decide) ?_
        refine lv_goto (tgt := 52) hx hb dL_baths_48 (by decide) ?_
        refine c_iast (Wc := [OW cy a V u, [(ro, .inl (cy 6, nB V.σ, .inr (.inr (.inr (.inr g)))))], rowA cy ra V.σ k, [(q2, .inl (cy 2, 4, .inl (upd (upd (fun _ => 0) 0 (vB V.σ k)) 1 (hB V.σ k))))]]) (Wn := [OW cy a V u, [(ro, .inl (cy 6, nB V.σ, .inr (.inr (.inr (.inr g)))))], rowA cy ra V.σ k, [(q2, .inl (cy 2, 4, .inl (upd (upd (upd (fun _ => 0) 0 (vB V.σ k)) 1 (hB V.σ k)) 2 1)))]]) hx hb hK hP hD hS 3 rfl 2 rfl (by decide) (Nat.le_of_ble_eq_true rfl) rfl dL_baths_52 (fun H locs hP hD hS => ?_)
        refine lv_dup hx hb dL_baths_53 rfl ?_
        refine lv_iconst (v := 3) hx hb dL_baths_54 (by decide) ?_
        refine lv_aload_n hx hb dL_baths_55 rfl (lv_at hl 2 rfl) ?_
        refine lv_iload_n hx hb dL_baths_56 rfl (lv_at hl 0 rfl) ?_
        refine lq_V S9 hLF (d_isMember l G cy kS vS a V k ho hk9) (bigV 1 hts (big_at 17 11 rfl) (big_at 0 6 rfl) (big_at 17 14 rfl) (big_at 17 12 rfl) (big_at 17 13 rfl) rfl rfl (by decide +kernel) ⟨Nat.le_of_ble_eq_true rfl, Nat.le_of_ble_eq_true rfl⟩) hP hD hS hA rfl hl.1 rfl (Nat.le_of_ble_eq_true rfl) (MC := 11) ⟨rfl, rfl⟩ (1 * d + 0) (by omega) (by omega) dL_baths_57 (fun u H locs cells slots hc hs hP hD hS => ?_)
        rcases ho.m01 k (by omega) with m9 | m9
        · refine lv_if_eq (tgt := 67) hx hb dL_baths_60 (by decide) (fun _ => ?_) (fun c9 => absurd m9 c9)
          refine lv_iconst (v := 0) hx hb dL_baths_67 (by decide) ?_
          refine c_iast (Wc := [OW cy a V u, [(ro, .inl (cy 6, nB V.σ, .inr (.inr (.inr (.inr g)))))], rowA cy ra V.σ k, [(q2, .inl (cy 2, 4, .inl (upd (upd (upd (fun _ => 0) 0 (vB V.σ k)) 1 (hB V.σ k)) 2 1)))]]) (Wn := [OW cy a V u, [(ro, .inl (cy 6, nB V.σ, .inr (.inr (.inr (.inr g)))))], rowA cy ra V.σ k, [(q2, .inl (cy 2, 4, .inl (upd (upd (upd (upd (fun _ => 0) 0 (vB V.σ k)) 1 (hB V.σ k)) 2 1) 3 0)))]]) hx hb hK hP hD hS 3 rfl 3 rfl (by decide) (Nat.le_of_ble_eq_true rfl) rfl dL_baths_68 (fun H locs hP hD hS => ?_)
          refine lv_astore_n (lv' := [(3, .ref q2), (2, .int (nI k)), (1, .ref ro), (0, .ref a.aX)]) hx hb dL_baths_69 rfl hl (by decide) rfl (fun ls hl => ?_)
          refine lv_aload_n hx hb dL_baths_70 rfl (lv_at hl 2 rfl) ?_
          refine lv_iload_n hx hb dL_baths_71 rfl (lv_at hl 1 rfl) ?_
          refine lv_aload_n hx hb dL_baths_72 rfl (lv_at hl 0 rfl) ?_
          refine c_aast (Wc := [OW cy a V u, [(ro, .inl (cy 6, nB V.σ, .inr (.inr (.inr (.inr g)))))], rowA cy ra V.σ k, [(q2, .inl (cy 2, 4, .inl (upd (upd (upd (upd (fun _ => 0) 0 (vB V.σ k)) 1 (hB V.σ k)) 2 1) 3 0)))]]) (Wn := [OW cy a V u, [(ro, .inl (cy 6, nB V.σ, .inr (.inr (.inr (.inr (va_up g k (some q2)))))))], rowA cy ra V.σ k, [(q2, .inl (cy 2, 4, .inl (upd (upd (upd (upd (fun _ => 0) 0 (vB V.σ k)) 1 (hB V.σ k)) 2 1) 3 0)))]]) hx hb hK hAA hP hD hS 1 3 rfl rfl k rfl hk9 (by omega) rfl dL_baths_73 (fun H locs hP hD hS => ?_)
          have eW : fl [OW cy a V u, [(ro, .inl (cy 6, nB V.σ, .inr (.inr (.inr (.inr (va_up g k (some q2)))))))], rowA cy ra V.σ k, [(q2, .inl (cy 2, 4, .inl (upd (upd (upd (upd (fun _ => 0) 0 (vB V.σ k)) 1 (hB V.σ k)) 2 1) 3 0)))]] = fl [OW cy a V u, [(ro, .inl (cy 6, nB V.σ, .inr (.inr (.inr (.inr (va_up g k (some q2)))))))], rowA cy (fun i => if i = k then q2 else ra i) V.σ (k + 1)] := by rw [row_mk p9 m9, ← rowA_snoc, fl_eq, fl_eq]; simp only [List.flatten_cons, List.flatten_nil, List.append_nil, List.append_assoc]
          rw [eW] at hP hD
          refine lv_iinc (v := nI (k + 1)) (lv' := [(2, .int (nI (k + 1))), (3, .ref q2), (1, .ref ro), (0, .ref a.aX)]) hx hb dL_baths_74 hl (k := 1) rfl (m_inc _) (by decide) rfl (fun ls hl => ?_)
          refine lv_goto (tgt := 12) hx hb dL_baths_77 (by decide) ?_
          exact ih (k + 1) (by omega) _ (va_up g k (some q2)) (fun i => if i = k then q2 else ra i) _ _ _ _ (va_up_row hg) (by omega) (by omega) hP hD hS ls (lv_sub hl [0, 2, 3] rfl)
        · refine lv_if_eq (tgt := 67) hx hb dL_baths_60 (by decide) (fun c9 => absurd c9 (by rw [m9]; decide)) (fun _ => ?_)
          refine lv_iconst (v := 1) hx hb dL_baths_63 (by decide) ?_
          refine lv_goto (tgt := 68) hx hb dL_baths_64 (by decide) ?_
          refine c_iast (Wc := [OW cy a V u, [(ro, .inl (cy 6, nB V.σ, .inr (.inr (.inr (.inr g)))))], rowA cy ra V.σ k, [(q2, .inl (cy 2, 4, .inl (upd (upd (upd (fun _ => 0) 0 (vB V.σ k)) 1 (hB V.σ k)) 2 1)))]]) (Wn := [OW cy a V u, [(ro, .inl (cy 6, nB V.σ, .inr (.inr (.inr (.inr g)))))], rowA cy ra V.σ k, [(q2, .inl (cy 2, 4, .inl (upd (upd (upd (upd (fun _ => 0) 0 (vB V.σ k)) 1 (hB V.σ k)) 2 1) 3 1)))]]) hx hb hK hP hD hS 3 rfl 3 rfl (by decide) (Nat.le_of_ble_eq_true rfl) rfl dL_baths_68 (fun H locs hP hD hS => ?_)
          refine lv_astore_n (lv' := [(3, .ref q2), (2, .int (nI k)), (1, .ref ro), (0, .ref a.aX)]) hx hb dL_baths_69 rfl hl (by decide) rfl (fun ls hl => ?_)
          refine lv_aload_n hx hb dL_baths_70 rfl (lv_at hl 2 rfl) ?_
          refine lv_iload_n hx hb dL_baths_71 rfl (lv_at hl 1 rfl) ?_
          refine lv_aload_n hx hb dL_baths_72 rfl (lv_at hl 0 rfl) ?_
          refine c_aast (Wc := [OW cy a V u, [(ro, .inl (cy 6, nB V.σ, .inr (.inr (.inr (.inr g)))))], rowA cy ra V.σ k, [(q2, .inl (cy 2, 4, .inl (upd (upd (upd (upd (fun _ => 0) 0 (vB V.σ k)) 1 (hB V.σ k)) 2 1) 3 1)))]]) (Wn := [OW cy a V u, [(ro, .inl (cy 6, nB V.σ, .inr (.inr (.inr (.inr (va_up g k (some q2)))))))], rowA cy ra V.σ k, [(q2, .inl (cy 2, 4, .inl (upd (upd (upd (upd (fun _ => 0) 0 (vB V.σ k)) 1 (hB V.σ k)) 2 1) 3 1)))]]) hx hb hK hAA hP hD hS 1 3 rfl rfl k rfl hk9 (by omega) rfl dL_baths_73 (fun H locs hP hD hS => ?_)
          have eW : fl [OW cy a V u, [(ro, .inl (cy 6, nB V.σ, .inr (.inr (.inr (.inr (va_up g k (some q2)))))))], rowA cy ra V.σ k, [(q2, .inl (cy 2, 4, .inl (upd (upd (upd (upd (fun _ => 0) 0 (vB V.σ k)) 1 (hB V.σ k)) 2 1) 3 1)))]] = fl [OW cy a V u, [(ro, .inl (cy 6, nB V.σ, .inr (.inr (.inr (.inr (va_up g k (some q2)))))))], rowA cy (fun i => if i = k then q2 else ra i) V.σ (k + 1)] := by rw [row_mk p9 m9, ← rowA_snoc, fl_eq, fl_eq]; simp only [List.flatten_cons, List.flatten_nil, List.append_nil, List.append_assoc]
          rw [eW] at hP hD
          refine lv_iinc (v := nI (k + 1)) (lv' := [(2, .int (nI (k + 1))), (3, .ref q2), (1, .ref ro), (0, .ref a.aX)]) hx hb dL_baths_74 hl (k := 1) rfl (m_inc _) (by decide) rfl (fun ls hl => ?_)
          refine lv_goto (tgt := 12) hx hb dL_baths_77 (by decide) ?_
          exact ih (k + 1) (by omega) _ (va_up g k (some q2)) (fun i => if i = k then q2 else ra i) _ _ _ _ (va_up_row hg) (by omega) (by omega) hP hD hS ls (lv_sub hl [0, 2, 3] rfl)
  exact L12 (nB V.σ) 0 (by omega) _ (fun i => if i < nB V.σ then some (r i) else none) r _ _ _ _ (fun i hi => absurd hi (Nat.not_lt_zero i)) (by omega) (by omega) hP hD hS ls (lv_sub hl [0, 1, 2] rfl)
