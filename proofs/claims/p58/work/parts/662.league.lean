/-! the league -/
set_option maxRecDepth 100000 in
set_option maxHeartbeats 2000000 in
theorem n_league (l : Launch) (G : va_G) (cy : Nat → ClassId) (kS vS : Nat → Nat) (a : OA) (V : OV) (n0 : Nat) (hl9 : l.stackTraces = false) (hI : Inv n0 V.σ) : LQ l yL_league 14 400 20 G cy kS vS a V V [.ref a.aX] (.int 1) := by
  refine LX.ofW (cc := cL_league) (maxL := 8) (ret := (some .boolean)) (by decide) (big_at 21 18 rfl) (Nat.le_of_ble_eq_true rfl) ?_
  intro p e s m below meth cq u0 S9 hr hlocks hPQ hD hS hA ls hl
  obtain ⟨hx, hb, hml, hown, hts⟩ := id S9
  have hLF := LF.mk hPQ
  have hK := hLF.1
  have hP : va_P G vwCl (fl [OW cy a V u0]) s.heap := hPQ.1.1
  have hD : va_D (va_A (OW cy a V u0) s.heap.size) (fl [OW cy a V u0]) := hD
  have hc : 0 + 20 ≤ 20 := Nat.le_of_ble_eq_true rfl
  have hs : 0 + 64 * 20 ≤ 64 * 20 := Nat.le_of_ble_eq_true rfl
  have hl : lv_has ls 8 [(0, .ref a.aX)] := hl
  have ho := hI.1
  have hN := ho.1
  have hm := ho.m01
  have hbd := hI.bd
  refine lv_aload_n hx hb dL_league_0 rfl (lv_at hl 0 rfl) ?_
  refine lb_S S9 hLF (n_baths l G cy kS vS a V n0 hI) (bigS 1 hts (big_at 16 8 rfl) (big_at 0 2 rfl) (big_at 16 10 rfl) (big_at 16 9 rfl) rfl rfl (by decide +kernel) ⟨Nat.le_of_ble_eq_true rfl, Nat.le_of_ble_eq_true rfl⟩) hP hD hS hA hl.1 (Nat.le_of_ble_eq_true rfl) (MC := 20) ⟨rfl, rfl⟩ (9) (by omega) (by omega) dL_league_1 (fun u ro ra H locs cells slots hc hs hP hD hS => ?_)
  refine lv_astore_n (lv' := [(1, .ref ro), (0, .ref a.aX)]) hx hb dL_league_4 rfl hl (by decide) rfl (fun ls hl => ?_)
  refine lv_iconst (v := 0) hx hb dL_league_5 (by decide) ?_
  refine lv_istore_n (lv' := [(2, .int 0), (1, .ref ro), (0, .ref a.aX)]) hx hb dL_league_6 rfl hl (by decide) rfl (fun ls hl => ?_)
  refine lv_iconst (v := 0) hx hb dL_league_7 (by decide) ?_
  refine lv_istore_n (lv' := [(3, .int 0), (2, .int 0), (1, .ref ro), (0, .ref a.aX)]) hx hb dL_league_8 rfl hl (by decide) rfl (fun ls hl => ?_)
  refine lv_aload_n hx hb dL_league_9 rfl (lv_at hl 2 rfl) ?_
  refine lv_astore (lv' := [(4, .ref ro), (3, .int 0), (2, .int 0), (1, .ref ro), (0, .ref a.aX)]) hx hb dL_league_10 hl (by decide) rfl (fun ls hl => ?_)
  refine lv_aload hx hb dL_league_12 (lv_at hl 0 rfl) ?_
  refine r_len (Wc := [OW cy a V u, rowsW cy ro ra V.σ]) hx hb hK hP 1 rfl dL_league_14 ?_
  refine lv_istore (lv' := [(5, .int (nI (nB V.σ))), (4, .ref ro), (3, .int 0), (2, .int 0), (1, .ref ro), (0, .ref a.aX)]) hx hb dL_league_15 hl (by decide) rfl (fun ls hl => ?_)
  refine lv_iconst (v := 0) hx hb dL_league_17 (by decide) ?_
  refine lv_istore (lv' := [(6, .int 0), (5, .int (nI (nB V.σ))), (4, .ref ro), (3, .int 0), (2, .int 0), (1, .ref ro), (0, .ref a.aX)]) hx hb dL_league_18 hl (by decide) rfl (fun ls hl => ?_)
  have L20 : ∀ (d k : Nat), k + d = nB V.σ → ∀ (u : OU) (H : Heap) (locs : List Loc) (cells slots : Nat), cells + (0 * d + 9) ≤ 20 → slots + 64 * (0 * d + 9) ≤ 64 * 20 → va_P G vwCl (fl [OW cy a V u, rowsW cy ro ra V.σ]) H → va_D (va_A (OW cy a V u0) s.heap.size) (fl [OW cy a V u, rowsW cy ro ra V.σ]) → va_S (va_A (OW cy a V u0) s.heap.size) s.heap H locs → ∀ ls : Array Slot, lv_has ls 8 [(6, .int (nI k)), (5, .int (nI (nB V.σ))), (4, .ref ro), (3, .int (sumM (hB V.σ) (mB V.σ) k)), (2, .int (cntM (mB V.σ) k)), (1, .ref ro), (0, .ref a.aX)] → W p l e ({ frames := 14, cells := 20, slots := 64 * 20, locals := 400 } : Room) s m ([.ref a.aX] : List Value).toArray below meth cq H locs cells slots (lxZ below ([.ref a.aX] : List Value).toArray s G cy a V u0 (fun V2 r2 => V2 = V ∧ r2 = .int 1) 20) (F0 m 20 ls []) := by
    intro d
    induction d with
    | zero =>
      intro k hk u H locs cells slots hc hs hP hD hS ls hl
      have hk9 : k = nB V.σ := by omega
      subst hk9
      refine lv_iload hx hb dL_league_20 (lv_at hl 0 rfl) ?_
      refine lv_iload hx hb dL_league_22 (lv_at hl 1 rfl) ?_
      refine lv_icmp_ge (tgt := 59) hx hb dL_league_24 (by decide) (fun _ => ?_) (fun c9 => absurd (Int32.le_refl _) c9)
      refine lv_aload_n hx hb dL_league_59 rfl (lv_at hl 6 rfl) ?_
      refine lq_V S9 hLF (d_memberCount l G cy kS vS a V ho) (bigV 0 hts (big_at 21 19 rfl) (big_at 0 6 rfl) (big_at 21 22 rfl) (big_at 21 20 rfl) (big_at 21 21 rfl) rfl rfl (by decide +kernel) ⟨Nat.le_of_ble_eq_true rfl, Nat.le_of_ble_eq_true rfl⟩) hP hD hS hA rfl hl.1 rfl (Nat.le_of_ble_eq_true rfl) (MC := 20) ⟨rfl, rfl⟩ (9) (by omega) (by omega) dL_league_60 (fun u H locs cells slots hc hs hP hD hS => ?_)
      refine lv_iload_n hx hb dL_league_63 rfl (lv_at hl 4 rfl) ?_
      refine lv_icmp_ne (tgt := 146) hx hb dL_league_64 (by decide) (fun c9 => absurd rfl c9) (fun _ => ?_)
      refine lv_aload_n hx hb dL_league_67 rfl (lv_at hl 6 rfl) ?_
      refine lq_V S9 hLF (d_leagueHeat l G cy kS vS a V ho) (bigV 0 hts (big_at 21 23 rfl) (big_at 0 6 rfl) (big_at 22 2 rfl) (big_at 22 0 rfl) (big_at 22 1 rfl) rfl rfl (by decide +kernel) ⟨Nat.le_of_ble_eq_true rfl, Nat.le_of_ble_eq_true rfl⟩) hP hD hS hA rfl hl.1 rfl (Nat.le_of_ble_eq_true rfl) (MC := 20) ⟨rfl, rfl⟩ (9) (by omega) (by omega) dL_league_68 (fun u H locs cells slots hc hs hP hD hS => ?_)
      refine lv_iload_n hx hb dL_league_71 rfl (lv_at hl 3 rfl) ?_
      refine lv_icmp_ne (tgt := 146) hx hb dL_league_72 (by decide) (fun c9 => absurd rfl c9) (fun _ => ?_)
      refine lv_aload_n hx hb dL_league_75 rfl (lv_at hl 6 rfl) ?_
      refine lq_V S9 hLF (d_leagueHeatByOthers l G cy kS vS a V ho) (bigV 0 hts (big_at 22 7 rfl) (big_at 0 6 rfl) (big_at 22 10 rfl) (big_at 22 8 rfl) (big_at 22 9 rfl) rfl rfl (by decide +kernel) ⟨Nat.le_of_ble_eq_true rfl, Nat.le_of_ble_eq_true rfl⟩) hP hD hS hA rfl hl.1 rfl (Nat.le_of_ble_eq_true rfl) (MC := 20) ⟨rfl, rfl⟩ (9) (by omega) (by omega) dL_league_76 (fun u H locs cells slots hc hs hP hD hS => ?_)
      refine lv_iload_n hx hb dL_league_79 rfl (lv_at hl 3 rfl) ?_
      refine lv_icmp_ne (tgt := 146) hx hb dL_league_80 (by decide) (fun c9 => absurd (sum_M _ _ _).symm c9) (fun _ => ?_)
      refine lv_aload_n hx hb dL_league_83 rfl (lv_at hl 6 rfl) ?_
      cases hO : hotO (vB V.σ) (hB V.σ) (mB V.σ) (nB V.σ) with
      | none =>
        refine lq_SW S9 hLF (q_warmest_x l G cy kS vS a V hl9 ho hO) (bigSW 1 hts (big_at 22 19 rfl) (big_at 0 2 rfl) (big_at 22 21 rfl) (big_at 22 20 rfl) rfl rfl (by decide +kernel) ⟨Nat.le_of_ble_eq_true rfl, Nat.le_of_ble_eq_true rfl⟩) hP hD hS hA rfl hl.1 rfl (Nat.le_of_ble_eq_true rfl) (MC := 20) ⟨rfl, rfl⟩ (8) (by omega) (by omega) dL_league_84 (fun u H locs cells slots hc hs hP hD hS => ?_)
        refine lv_aload_n hx hb dL_league_87 rfl (lv_at hl 5 rfl) ?_
        refine lv_iconst (v := 1) hx hb dL_league_88 (by decide) ?_
        refine m_ro (va_runS S9 (n_hottest l G cy ro ra V.σ hN hm hbd) (bigS 2 hts (big_at 23 3 rfl) (big_at 0 2 rfl) (big_at 23 5 rfl) (big_at 23 4 rfl) rfl rfl (by decide +kernel) ⟨Nat.le_of_ble_eq_true rfl, Nat.le_of_ble_eq_true rfl⟩) ⟨fun b2 U g mk q => ⟨q.1, PB.blind U g mk b2 q.2⟩, fun U hU hW => ⟨rfl, PB.at hK (PpartC (Wc := [OW cy a V u, rowsW cy ro ra V.σ]) (cs := [rowsW cy ro ra V.σ]) hP [1] rfl) U hU hW⟩⟩ (g := F0 m _ ls _) rfl rfl hl.1 rfl (lv_room (Nat.le_of_ble_eq_true rfl)) dL_league_89 ⟨(show _ ≤ 20 by omega), (show _ ≤ 64 * 20 by omega)⟩) ?_
        rw [hO]
        refine lv_icmp_ne (tgt := 146) hx hb dL_league_92 (by decide) (fun c9 => absurd rfl c9) (fun _ => ?_)
        refine lv_aload_n hx hb dL_league_95 rfl (lv_at hl 6 rfl) ?_
        cases hC : colO (vB V.σ) (hB V.σ) (mB V.σ) (nB V.σ) with
        | none =>
          refine lq_SW S9 hLF (q_coldest_x l G cy kS vS a V hl9 ho hC) (bigSW 1 hts (big_at 23 6 rfl) (big_at 0 2 rfl) (big_at 23 8 rfl) (big_at 23 7 rfl) rfl rfl (by decide +kernel) ⟨Nat.le_of_ble_eq_true rfl, Nat.le_of_ble_eq_true rfl⟩) hP hD hS hA rfl hl.1 rfl (Nat.le_of_ble_eq_true rfl) (MC := 20) ⟨rfl, rfl⟩ (7) (by omega) (by omega) dL_league_96 (fun u H locs cells slots hc hs hP hD hS => ?_)
          refine lv_aload_n hx hb dL_league_99 rfl (lv_at hl 5 rfl) ?_
          refine lv_iconst (v := 0) hx hb dL_league_100 (by decide) ?_
          refine m_ro (va_runS S9 (n_coolest l G cy ro ra V.σ hN hm hbd) (bigS 2 hts (big_at 23 3 rfl) (big_at 0 2 rfl) (big_at 23 5 rfl) (big_at 23 4 rfl) rfl rfl (by decide +kernel) ⟨Nat.le_of_ble_eq_true rfl, Nat.le_of_ble_eq_true rfl⟩) ⟨fun b2 U g mk q => ⟨q.1, PB.blind U g mk b2 q.2⟩, fun U hU hW => ⟨rfl, PB.at hK (PpartC (Wc := [OW cy a V u, rowsW cy ro ra V.σ]) (cs := [rowsW cy ro ra V.σ]) hP [1] rfl) U hU hW⟩⟩ (g := F0 m _ ls _) rfl rfl hl.1 rfl (lv_room (Nat.le_of_ble_eq_true rfl)) dL_league_101 ⟨(show _ ≤ 20 by omega), (show _ ≤ 64 * 20 by omega)⟩) ?_
          rw [hC]
          refine lv_icmp_ne (tgt := 146) hx hb dL_league_104 (by decide) (fun c9 => absurd rfl c9) (fun _ => ?_)
          refine lv_aload_n hx hb dL_league_107 rfl (lv_at hl 6 rfl) ?_
          by_cases h2 : cntW (vB V.σ) (mB V.σ) (nB V.σ) < 2
          · refine lq_SW S9 hLF (q_shared_x l G cy kS vS a V hl9 ho h2) (bigSW 1 hts (big_at 23 14 rfl) (big_at 0 2 rfl) (big_at 23 16 rfl) (big_at 23 15 rfl) rfl rfl (by decide +kernel) ⟨Nat.le_of_ble_eq_true rfl, Nat.le_of_ble_eq_true rfl⟩) hP hD hS hA rfl hl.1 rfl (Nat.le_of_ble_eq_true rfl) (MC := 20) ⟨rfl, rfl⟩ (6) (by omega) (by omega) dL_league_108 (fun u H locs cells slots hc hs hP hD hS => ?_)
            refine lv_aload_n hx hb dL_league_111 rfl (lv_at hl 5 rfl) ?_
            refine m_ro (va_runS S9 (n_wetMembers l G cy ro ra V.σ hN hm) (bigS 1 hts (big_at 23 23 rfl) (big_at 0 2 rfl) (big_at 24 1 rfl) (big_at 24 0 rfl) rfl rfl (by decide +kernel) ⟨Nat.le_of_ble_eq_true rfl, Nat.le_of_ble_eq_true rfl⟩) ⟨fun b2 U g mk q => ⟨q.1, PB.blind U g mk b2 q.2⟩, fun U hU hW => ⟨rfl, PB.at hK (PpartC (Wc := [OW cy a V u, rowsW cy ro ra V.σ]) (cs := [rowsW cy ro ra V.σ]) hP [1] rfl) U hU hW⟩⟩ (g := F0 m _ ls _) rfl rfl hl.1 rfl (lv_room (Nat.le_of_ble_eq_true rfl)) dL_league_112 ⟨(show _ ≤ 20 by omega), (show _ ≤ 64 * 20 by omega)⟩) ?_
            refine lv_iconst (v := 2) hx hb dL_league_115 (by decide) ?_
            refine lv_icmp_ge (tgt := 124) hx hb dL_league_116 (by decide) (fun c9 => absurd c9 (Int32.not_le.mpr h2)) (fun _ => ?_)
            refine lv_bipush (v := (-13)) hx hb dL_league_119 (by decide) ?_
            refine lv_goto (tgt := 128) hx hb dL_league_121 (by decide) ?_
            refine lv_icmp_ne (tgt := 146) hx hb dL_league_128 (by decide) (fun c9 => absurd (by decide) c9) (fun _ => ?_)
            refine lv_aload_n hx hb dL_league_131 rfl (lv_at hl 6 rfl) ?_
            refine lv_aload_n hx hb dL_league_132 rfl (lv_at hl 5 rfl) ?_
            have ixn : ¬ inI (nI (nB V.σ)) (nI (nB V.σ)) = true := by simp [inI]
            refine r_len (Wc := [OW cy a V u, rowsW cy ro ra V.σ]) hx hb hK hP 1 rfl dL_league_133 ?_
            refine lq_SW S9 hLF (q_isMember_1 l G cy kS vS a V (nI (nB V.σ)) hl9 ho ixn) (bigSW 2 hts (big_at 24 9 rfl) (big_at 0 2 rfl) (big_at 24 11 rfl) (big_at 24 10 rfl) rfl rfl (by decide +kernel) ⟨Nat.le_of_ble_eq_true rfl, Nat.le_of_ble_eq_true rfl⟩) hP hD hS hA rfl hl.1 rfl (Nat.le_of_ble_eq_true rfl) (MC := 20) ⟨rfl, rfl⟩ (5) (by omega) (by omega) dL_league_134 (fun u H locs cells slots hc hs hP hD hS => ?_)
            refine lv_bipush (v := (-11)) hx hb dL_league_137 (by decide) ?_
            refine lv_icmp_ne (tgt := 146) hx hb dL_league_139 (by decide) (fun c9 => absurd (by decide) c9) (fun _ => ?_)
            refine lv_iconst (v := 1) hx hb dL_league_142 (by decide) ?_
            refine lv_goto (tgt := 147) hx hb dL_league_143 (by decide) ?_
            exact lx_zret hx hb hr hlocks (by rfl) ⟨rfl, rfl⟩ hP hS (by omega) (by omega) dL_league_147
          · exfalso
            obtain ⟨z1, e1⟩ := hotO_some (h := hB V.σ) hN (Int32.not_lt.mp h2)
            obtain ⟨z2, e2⟩ := colO_some (h := hB V.σ) hN (Int32.not_lt.mp h2)
            exact absurd (hO.symm.trans e1) (fun q => by cases q)
        | some b9 =>
          refine lq_SW S9 hLF (q_coldest l G cy kS vS a V b9 ho hC) (bigSW 1 hts (big_at 23 6 rfl) (big_at 0 2 rfl) (big_at 23 8 rfl) (big_at 23 7 rfl) rfl rfl (by decide +kernel) ⟨Nat.le_of_ble_eq_true rfl, Nat.le_of_ble_eq_true rfl⟩) hP hD hS hA rfl hl.1 rfl (Nat.le_of_ble_eq_true rfl) (MC := 20) ⟨rfl, rfl⟩ (7) (by omega) (by omega) dL_league_96 (fun u H locs cells slots hc hs hP hD hS => ?_)
          refine lv_aload_n hx hb dL_league_99 rfl (lv_at hl 5 rfl) ?_
          refine lv_iconst (v := 0) hx hb dL_league_100 (by decide) ?_
          refine m_ro (va_runS S9 (n_coolest l G cy ro ra V.σ hN hm hbd) (bigS 2 hts (big_at 23 3 rfl) (big_at 0 2 rfl) (big_at 23 5 rfl) (big_at 23 4 rfl) rfl rfl (by decide +kernel) ⟨Nat.le_of_ble_eq_true rfl, Nat.le_of_ble_eq_true rfl⟩) ⟨fun b2 U g mk q => ⟨q.1, PB.blind U g mk b2 q.2⟩, fun U hU hW => ⟨rfl, PB.at hK (PpartC (Wc := [OW cy a V u, rowsW cy ro ra V.σ]) (cs := [rowsW cy ro ra V.σ]) hP [1] rfl) U hU hW⟩⟩ (g := F0 m _ ls _) rfl rfl hl.1 rfl (lv_room (Nat.le_of_ble_eq_true rfl)) dL_league_101 ⟨(show _ ≤ 20 by omega), (show _ ≤ 64 * 20 by omega)⟩) ?_
          rw [hC]
          refine lv_icmp_ne (tgt := 146) hx hb dL_league_104 (by decide) (fun c9 => absurd rfl c9) (fun _ => ?_)
          refine lv_aload_n hx hb dL_league_107 rfl (lv_at hl 6 rfl) ?_
          by_cases h2 : cntW (vB V.σ) (mB V.σ) (nB V.σ) < 2
          · refine lq_SW S9 hLF (q_shared_x l G cy kS vS a V hl9 ho h2) (bigSW 1 hts (big_at 23 14 rfl) (big_at 0 2 rfl) (big_at 23 16 rfl) (big_at 23 15 rfl) rfl rfl (by decide +kernel) ⟨Nat.le_of_ble_eq_true rfl, Nat.le_of_ble_eq_true rfl⟩) hP hD hS hA rfl hl.1 rfl (Nat.le_of_ble_eq_true rfl) (MC := 20) ⟨rfl, rfl⟩ (6) (by omega) (by omega) dL_league_108 (fun u H locs cells slots hc hs hP hD hS => ?_)
            refine lv_aload_n hx hb dL_league_111 rfl (lv_at hl 5 rfl) ?_
            refine m_ro (va_runS S9 (n_wetMembers l G cy ro ra V.σ hN hm) (bigS 1 hts (big_at 23 23 rfl) (big_at 0 2 rfl) (big_at 24 1 rfl) (big_at 24 0 rfl) rfl rfl (by decide +kernel) ⟨Nat.le_of_ble_eq_true rfl, Nat.le_of_ble_eq_true rfl⟩) ⟨fun b2 U g mk q => ⟨q.1, PB.blind U g mk b2 q.2⟩, fun U hU hW => ⟨rfl, PB.at hK (PpartC (Wc := [OW cy a V u, rowsW cy ro ra V.σ]) (cs := [rowsW cy ro ra V.σ]) hP [1] rfl) U hU hW⟩⟩ (g := F0 m _ ls _) rfl rfl hl.1 rfl (lv_room (Nat.le_of_ble_eq_true rfl)) dL_league_112 ⟨(show _ ≤ 20 by omega), (show _ ≤ 64 * 20 by omega)⟩) ?_
            refine lv_iconst (v := 2) hx hb dL_league_115 (by decide) ?_
            refine lv_icmp_ge (tgt := 124) hx hb dL_league_116 (by decide) (fun c9 => absurd c9 (Int32.not_le.mpr h2)) (fun _ => ?_)
            refine lv_bipush (v := (-13)) hx hb dL_league_119 (by decide) ?_
            refine lv_goto (tgt := 128) hx hb dL_league_121 (by decide) ?_
            refine lv_icmp_ne (tgt := 146) hx hb dL_league_128 (by decide) (fun c9 => absurd (by decide) c9) (fun _ => ?_)
            refine lv_aload_n hx hb dL_league_131 rfl (lv_at hl 6 rfl) ?_
            refine lv_aload_n hx hb dL_league_132 rfl (lv_at hl 5 rfl) ?_
            have ixn : ¬ inI (nI (nB V.σ)) (nI (nB V.σ)) = true := by simp [inI]
            refine r_len (Wc := [OW cy a V u, rowsW cy ro ra V.σ]) hx hb hK hP 1 rfl dL_league_133 ?_
            refine lq_SW S9 hLF (q_isMember_1 l G cy kS vS a V (nI (nB V.σ)) hl9 ho ixn) (bigSW 2 hts (big_at 24 9 rfl) (big_at 0 2 rfl) (big_at 24 11 rfl) (big_at 24 10 rfl) rfl rfl (by decide +kernel) ⟨Nat.le_of_ble_eq_true rfl, Nat.le_of_ble_eq_true rfl⟩) hP hD hS hA rfl hl.1 rfl (Nat.le_of_ble_eq_true rfl) (MC := 20) ⟨rfl, rfl⟩ (5) (by omega) (by omega) dL_league_134 (fun u H locs cells slots hc hs hP hD hS => ?_)
            refine lv_bipush (v := (-11)) hx hb dL_league_137 (by decide) ?_
            refine lv_icmp_ne (tgt := 146) hx hb dL_league_139 (by decide) (fun c9 => absurd (by decide) c9) (fun _ => ?_)
            refine lv_iconst (v := 1) hx hb dL_league_142 (by decide) ?_
            refine lv_goto (tgt := 147) hx hb dL_league_143 (by decide) ?_
            exact lx_zret hx hb hr hlocks (by rfl) ⟨rfl, rfl⟩ hP hS (by omega) (by omega) dL_league_147
          · exfalso
            obtain ⟨z1, e1⟩ := hotO_some (h := hB V.σ) hN (Int32.not_lt.mp h2)
            obtain ⟨z2, e2⟩ := colO_some (h := hB V.σ) hN (Int32.not_lt.mp h2)
            exact absurd (hO.symm.trans e1) (fun q => by cases q)
      | some a9 =>
        refine lq_SW S9 hLF (q_warmest l G cy kS vS a V a9 ho hO) (bigSW 1 hts (big_at 22 19 rfl) (big_at 0 2 rfl) (big_at 22 21 rfl) (big_at 22 20 rfl) rfl rfl (by decide +kernel) ⟨Nat.le_of_ble_eq_true rfl, Nat.le_of_ble_eq_true rfl⟩) hP hD hS hA rfl hl.1 rfl (Nat.le_of_ble_eq_true rfl) (MC := 20) ⟨rfl, rfl⟩ (8) (by omega) (by omega) dL_league_84 (fun u H locs cells slots hc hs hP hD hS => ?_)
        refine lv_aload_n hx hb dL_league_87 rfl (lv_at hl 5 rfl) ?_
        refine lv_iconst (v := 1) hx hb dL_league_88 (by decide) ?_
        refine m_ro (va_runS S9 (n_hottest l G cy ro ra V.σ hN hm hbd) (bigS 2 hts (big_at 23 3 rfl) (big_at 0 2 rfl) (big_at 23 5 rfl) (big_at 23 4 rfl) rfl rfl (by decide +kernel) ⟨Nat.le_of_ble_eq_true rfl, Nat.le_of_ble_eq_true rfl⟩) ⟨fun b2 U g mk q => ⟨q.1, PB.blind U g mk b2 q.2⟩, fun U hU hW => ⟨rfl, PB.at hK (PpartC (Wc := [OW cy a V u, rowsW cy ro ra V.σ]) (cs := [rowsW cy ro ra V.σ]) hP [1] rfl) U hU hW⟩⟩ (g := F0 m _ ls _) rfl rfl hl.1 rfl (lv_room (Nat.le_of_ble_eq_true rfl)) dL_league_89 ⟨(show _ ≤ 20 by omega), (show _ ≤ 64 * 20 by omega)⟩) ?_
        rw [hO]
        refine lv_icmp_ne (tgt := 146) hx hb dL_league_92 (by decide) (fun c9 => absurd rfl c9) (fun _ => ?_)
        refine lv_aload_n hx hb dL_league_95 rfl (lv_at hl 6 rfl) ?_
        cases hC : colO (vB V.σ) (hB V.σ) (mB V.σ) (nB V.σ) with
        | none =>
          refine lq_SW S9 hLF (q_coldest_x l G cy kS vS a V hl9 ho hC) (bigSW 1 hts (big_at 23 6 rfl) (big_at 0 2 rfl) (big_at 23 8 rfl) (big_at 23 7 rfl) rfl rfl (by decide +kernel) ⟨Nat.le_of_ble_eq_true rfl, Nat.le_of_ble_eq_true rfl⟩) hP hD hS hA rfl hl.1 rfl (Nat.le_of_ble_eq_true rfl) (MC := 20) ⟨rfl, rfl⟩ (7) (by omega) (by omega) dL_league_96 (fun u H locs cells slots hc hs hP hD hS => ?_)
          refine lv_aload_n hx hb dL_league_99 rfl (lv_at hl 5 rfl) ?_
          refine lv_iconst (v := 0) hx hb dL_league_100 (by decide) ?_
          refine m_ro (va_runS S9 (n_coolest l G cy ro ra V.σ hN hm hbd) (bigS 2 hts (big_at 23 3 rfl) (big_at 0 2 rfl) (big_at 23 5 rfl) (big_at 23 4 rfl) rfl rfl (by decide +kernel) ⟨Nat.le_of_ble_eq_true rfl, Nat.le_of_ble_eq_true rfl⟩) ⟨fun b2 U g mk q => ⟨q.1, PB.blind U g mk b2 q.2⟩, fun U hU hW => ⟨rfl, PB.at hK (PpartC (Wc := [OW cy a V u, rowsW cy ro ra V.σ]) (cs := [rowsW cy ro ra V.σ]) hP [1] rfl) U hU hW⟩⟩ (g := F0 m _ ls _) rfl rfl hl.1 rfl (lv_room (Nat.le_of_ble_eq_true rfl)) dL_league_101 ⟨(show _ ≤ 20 by omega), (show _ ≤ 64 * 20 by omega)⟩) ?_
          rw [hC]
          refine lv_icmp_ne (tgt := 146) hx hb dL_league_104 (by decide) (fun c9 => absurd rfl c9) (fun _ => ?_)
          refine lv_aload_n hx hb dL_league_107 rfl (lv_at hl 6 rfl) ?_
          by_cases h2 : cntW (vB V.σ) (mB V.σ) (nB V.σ) < 2
          · refine lq_SW S9 hLF (q_shared_x l G cy kS vS a V hl9 ho h2) (bigSW 1 hts (big_at 23 14 rfl) (big_at 0 2 rfl) (big_at 23 16 rfl) (big_at 23 15 rfl) rfl rfl (by decide +kernel) ⟨Nat.le_of_ble_eq_true rfl, Nat.le_of_ble_eq_true rfl⟩) hP hD hS hA rfl hl.1 rfl (Nat.le_of_ble_eq_true rfl) (MC := 20) ⟨rfl, rfl⟩ (6) (by omega) (by omega) dL_league_108 (fun u H locs cells slots hc hs hP hD hS => ?_)
            refine lv_aload_n hx hb dL_league_111 rfl (lv_at hl 5 rfl) ?_
            refine m_ro (va_runS S9 (n_wetMembers l G cy ro ra V.σ hN hm) (bigS 1 hts (big_at 23 23 rfl) (big_at 0 2 rfl) (big_at 24 1 rfl) (big_at 24 0 rfl) rfl rfl (by decide +kernel) ⟨Nat.le_of_ble_eq_true rfl, Nat.le_of_ble_eq_true rfl⟩) ⟨fun b2 U g mk q => ⟨q.1, PB.blind U g mk b2 q.2⟩, fun U hU hW => ⟨rfl, PB.at hK (PpartC (Wc := [OW cy a V u, rowsW cy ro ra V.σ]) (cs := [rowsW cy ro ra V.σ]) hP [1] rfl) U hU hW⟩⟩ (g := F0 m _ ls _) rfl rfl hl.1 rfl (lv_room (Nat.le_of_ble_eq_true rfl)) dL_league_112 ⟨(show _ ≤ 20 by omega), (show _ ≤ 64 * 20 by omega)⟩) ?_
            refine lv_iconst (v := 2) hx hb dL_league_115 (by decide) ?_
            refine lv_icmp_ge (tgt := 124) hx hb dL_league_116 (by decide) (fun c9 => absurd c9 (Int32.not_le.mpr h2)) (fun _ => ?_)
            refine lv_bipush (v := (-13)) hx hb dL_league_119 (by decide) ?_
            refine lv_goto (tgt := 128) hx hb dL_league_121 (by decide) ?_
            refine lv_icmp_ne (tgt := 146) hx hb dL_league_128 (by decide) (fun c9 => absurd (by decide) c9) (fun _ => ?_)
            refine lv_aload_n hx hb dL_league_131 rfl (lv_at hl 6 rfl) ?_
            refine lv_aload_n hx hb dL_league_132 rfl (lv_at hl 5 rfl) ?_
            have ixn : ¬ inI (nI (nB V.σ)) (nI (nB V.σ)) = true := by simp [inI]
            refine r_len (Wc := [OW cy a V u, rowsW cy ro ra V.σ]) hx hb hK hP 1 rfl dL_league_133 ?_
            refine lq_SW S9 hLF (q_isMember_1 l G cy kS vS a V (nI (nB V.σ)) hl9 ho ixn) (bigSW 2 hts (big_at 24 9 rfl) (big_at 0 2 rfl) (big_at 24 11 rfl) (big_at 24 10 rfl) rfl rfl (by decide +kernel) ⟨Nat.le_of_ble_eq_true rfl, Nat.le_of_ble_eq_true rfl⟩) hP hD hS hA rfl hl.1 rfl (Nat.le_of_ble_eq_true rfl) (MC := 20) ⟨rfl, rfl⟩ (5) (by omega) (by omega) dL_league_134 (fun u H locs cells slots hc hs hP hD hS => ?_)
            refine lv_bipush (v := (-11)) hx hb dL_league_137 (by decide) ?_
            refine lv_icmp_ne (tgt := 146) hx hb dL_league_139 (by decide) (fun c9 => absurd (by decide) c9) (fun _ => ?_)
            refine lv_iconst (v := 1) hx hb dL_league_142 (by decide) ?_
            refine lv_goto (tgt := 147) hx hb dL_league_143 (by decide) ?_
            exact lx_zret hx hb hr hlocks (by rfl) ⟨rfl, rfl⟩ hP hS (by omega) (by omega) dL_league_147
          · exfalso
            obtain ⟨z1, e1⟩ := hotO_some (h := hB V.σ) hN (Int32.not_lt.mp h2)
            obtain ⟨z2, e2⟩ := colO_some (h := hB V.σ) hN (Int32.not_lt.mp h2)
            exact absurd (hC.symm.trans e2) (fun q => by cases q)
        | some b9 =>
          refine lq_SW S9 hLF (q_coldest l G cy kS vS a V b9 ho hC) (bigSW 1 hts (big_at 23 6 rfl) (big_at 0 2 rfl) (big_at 23 8 rfl) (big_at 23 7 rfl) rfl rfl (by decide +kernel) ⟨Nat.le_of_ble_eq_true rfl, Nat.le_of_ble_eq_true rfl⟩) hP hD hS hA rfl hl.1 rfl (Nat.le_of_ble_eq_true rfl) (MC := 20) ⟨rfl, rfl⟩ (7) (by omega) (by omega) dL_league_96 (fun u H locs cells slots hc hs hP hD hS => ?_)
          refine lv_aload_n hx hb dL_league_99 rfl (lv_at hl 5 rfl) ?_
          refine lv_iconst (v := 0) hx hb dL_league_100 (by decide) ?_
          refine m_ro (va_runS S9 (n_coolest l G cy ro ra V.σ hN hm hbd) (bigS 2 hts (big_at 23 3 rfl) (big_at 0 2 rfl) (big_at 23 5 rfl) (big_at 23 4 rfl) rfl rfl (by decide +kernel) ⟨Nat.le_of_ble_eq_true rfl, Nat.le_of_ble_eq_true rfl⟩) ⟨fun b2 U g mk q => ⟨q.1, PB.blind U g mk b2 q.2⟩, fun U hU hW => ⟨rfl, PB.at hK (PpartC (Wc := [OW cy a V u, rowsW cy ro ra V.σ]) (cs := [rowsW cy ro ra V.σ]) hP [1] rfl) U hU hW⟩⟩ (g := F0 m _ ls _) rfl rfl hl.1 rfl (lv_room (Nat.le_of_ble_eq_true rfl)) dL_league_101 ⟨(show _ ≤ 20 by omega), (show _ ≤ 64 * 20 by omega)⟩) ?_
          rw [hC]
          refine lv_icmp_ne (tgt := 146) hx hb dL_league_104 (by decide) (fun c9 => absurd rfl c9) (fun _ => ?_)
          refine lv_aload_n hx hb dL_league_107 rfl (lv_at hl 6 rfl) ?_
          by_cases h2 : cntW (vB V.σ) (mB V.σ) (nB V.σ) < 2
          · refine lq_SW S9 hLF (q_shared_x l G cy kS vS a V hl9 ho h2) (bigSW 1 hts (big_at 23 14 rfl) (big_at 0 2 rfl) (big_at 23 16 rfl) (big_at 23 15 rfl) rfl rfl (by decide +kernel) ⟨Nat.le_of_ble_eq_true rfl, Nat.le_of_ble_eq_true rfl⟩) hP hD hS hA rfl hl.1 rfl (Nat.le_of_ble_eq_true rfl) (MC := 20) ⟨rfl, rfl⟩ (6) (by omega) (by omega) dL_league_108 (fun u H locs cells slots hc hs hP hD hS => ?_)
            refine lv_aload_n hx hb dL_league_111 rfl (lv_at hl 5 rfl) ?_
            refine m_ro (va_runS S9 (n_wetMembers l G cy ro ra V.σ hN hm) (bigS 1 hts (big_at 23 23 rfl) (big_at 0 2 rfl) (big_at 24 1 rfl) (big_at 24 0 rfl) rfl rfl (by decide +kernel) ⟨Nat.le_of_ble_eq_true rfl, Nat.le_of_ble_eq_true rfl⟩) ⟨fun b2 U g mk q => ⟨q.1, PB.blind U g mk b2 q.2⟩, fun U hU hW => ⟨rfl, PB.at hK (PpartC (Wc := [OW cy a V u, rowsW cy ro ra V.σ]) (cs := [rowsW cy ro ra V.σ]) hP [1] rfl) U hU hW⟩⟩ (g := F0 m _ ls _) rfl rfl hl.1 rfl (lv_room (Nat.le_of_ble_eq_true rfl)) dL_league_112 ⟨(show _ ≤ 20 by omega), (show _ ≤ 64 * 20 by omega)⟩) ?_
            refine lv_iconst (v := 2) hx hb dL_league_115 (by decide) ?_
            refine lv_icmp_ge (tgt := 124) hx hb dL_league_116 (by decide) (fun c9 => absurd c9 (Int32.not_le.mpr h2)) (fun _ => ?_)
            refine lv_bipush (v := (-13)) hx hb dL_league_119 (by decide) ?_
            refine lv_goto (tgt := 128) hx hb dL_league_121 (by decide) ?_
            refine lv_icmp_ne (tgt := 146) hx hb dL_league_128 (by decide) (fun c9 => absurd (by decide) c9) (fun _ => ?_)
            refine lv_aload_n hx hb dL_league_131 rfl (lv_at hl 6 rfl) ?_
            refine lv_aload_n hx hb dL_league_132 rfl (lv_at hl 5 rfl) ?_
            have ixn : ¬ inI (nI (nB V.σ)) (nI (nB V.σ)) = true := by simp [inI]
            refine r_len (Wc := [OW cy a V u, rowsW cy ro ra V.σ]) hx hb hK hP 1 rfl dL_league_133 ?_
            refine lq_SW S9 hLF (q_isMember_1 l G cy kS vS a V (nI (nB V.σ)) hl9 ho ixn) (bigSW 2 hts (big_at 24 9 rfl) (big_at 0 2 rfl) (big_at 24 11 rfl) (big_at 24 10 rfl) rfl rfl (by decide +kernel) ⟨Nat.le_of_ble_eq_true rfl, Nat.le_of_ble_eq_true rfl⟩) hP hD hS hA rfl hl.1 rfl (Nat.le_of_ble_eq_true rfl) (MC := 20) ⟨rfl, rfl⟩ (5) (by omega) (by omega) dL_league_134 (fun u H locs cells slots hc hs hP hD hS => ?_)
            refine lv_bipush (v := (-11)) hx hb dL_league_137 (by decide) ?_
            refine lv_icmp_ne (tgt := 146) hx hb dL_league_139 (by decide) (fun c9 => absurd (by decide) c9) (fun _ => ?_)
            refine lv_iconst (v := 1) hx hb dL_league_142 (by decide) ?_
            refine lv_goto (tgt := 147) hx hb dL_league_143 (by decide) ?_
            exact lx_zret hx hb hr hlocks (by rfl) ⟨rfl, rfl⟩ hP hS (by omega) (by omega) dL_league_147
          · refine lq_SW S9 hLF (q_shared l G cy kS vS a V a9 b9 ho h2 hO hC) (bigSW 1 hts (big_at 23 14 rfl) (big_at 0 2 rfl) (big_at 23 16 rfl) (big_at 23 15 rfl) rfl rfl (by decide +kernel) ⟨Nat.le_of_ble_eq_true rfl, Nat.le_of_ble_eq_true rfl⟩) hP hD hS hA rfl hl.1 rfl (Nat.le_of_ble_eq_true rfl) (MC := 20) ⟨rfl, rfl⟩ (6) (by omega) (by omega) dL_league_108 (fun u H locs cells slots hc hs hP hD hS => ?_)
            refine lv_aload_n hx hb dL_league_111 rfl (lv_at hl 5 rfl) ?_
            refine m_ro (va_runS S9 (n_wetMembers l G cy ro ra V.σ hN hm) (bigS 1 hts (big_at 23 23 rfl) (big_at 0 2 rfl) (big_at 24 1 rfl) (big_at 24 0 rfl) rfl rfl (by decide +kernel) ⟨Nat.le_of_ble_eq_true rfl, Nat.le_of_ble_eq_true rfl⟩) ⟨fun b2 U g mk q => ⟨q.1, PB.blind U g mk b2 q.2⟩, fun U hU hW => ⟨rfl, PB.at hK (PpartC (Wc := [OW cy a V u, rowsW cy ro ra V.σ]) (cs := [rowsW cy ro ra V.σ]) hP [1] rfl) U hU hW⟩⟩ (g := F0 m _ ls _) rfl rfl hl.1 rfl (lv_room (Nat.le_of_ble_eq_true rfl)) dL_league_112 ⟨(show _ ≤ 20 by omega), (show _ ≤ 64 * 20 by omega)⟩) ?_
            refine lv_iconst (v := 2) hx hb dL_league_115 (by decide) ?_
            refine lv_icmp_ge (tgt := 124) hx hb dL_league_116 (by decide) (fun _ => ?_) (fun c9 => absurd (Int32.not_lt.mp h2) c9)
            refine lv_aload_n hx hb dL_league_124 rfl (lv_at hl 5 rfl) ?_
            refine m_ro (va_runS S9 (n_share l G cy ro ra V.σ a9 b9 hN hm hbd hO hC) (bigS 1 hts (big_at 24 2 rfl) (big_at 0 2 rfl) (big_at 24 4 rfl) (big_at 24 3 rfl) rfl rfl (by decide +kernel) ⟨Nat.le_of_ble_eq_true rfl, Nat.le_of_ble_eq_true rfl⟩) ⟨fun b2 U g mk q => ⟨q.1, PB.blind U g mk b2 q.2⟩, fun U hU hW => ⟨rfl, PB.at hK (PpartC (Wc := [OW cy a V u, rowsW cy ro ra V.σ]) (cs := [rowsW cy ro ra V.σ]) hP [1] rfl) U hU hW⟩⟩ (g := F0 m _ ls _) rfl rfl hl.1 rfl (lv_room (Nat.le_of_ble_eq_true rfl)) dL_league_125 ⟨(show _ ≤ 20 by omega), (show _ ≤ 64 * 20 by omega)⟩) ?_
            refine lv_icmp_ne (tgt := 146) hx hb dL_league_128 (by decide) (fun c9 => absurd rfl c9) (fun _ => ?_)
            have ixn : ¬ inI (nI (nB V.σ)) (nI (nB V.σ)) = true := by simp [inI]
            refine lv_aload_n hx hb dL_league_131 rfl (lv_at hl 6 rfl) ?_
            refine lv_aload_n hx hb dL_league_132 rfl (lv_at hl 5 rfl) ?_
            refine r_len (Wc := [OW cy a V u, rowsW cy ro ra V.σ]) hx hb hK hP 1 rfl dL_league_133 ?_
            refine lq_SW S9 hLF (q_isMember_1 l G cy kS vS a V (nI (nB V.σ)) hl9 ho ixn) (bigSW 2 hts (big_at 24 9 rfl) (big_at 0 2 rfl) (big_at 24 11 rfl) (big_at 24 10 rfl) rfl rfl (by decide +kernel) ⟨Nat.le_of_ble_eq_true rfl, Nat.le_of_ble_eq_true rfl⟩) hP hD hS hA rfl hl.1 rfl (Nat.le_of_ble_eq_true rfl) (MC := 20) ⟨rfl, rfl⟩ (5) (by omega) (by omega) dL_league_134 (fun u H locs cells slots hc hs hP hD hS => ?_)
            refine lv_bipush (v := (-11)) hx hb dL_league_137 (by decide) ?_
            refine lv_icmp_ne (tgt := 146) hx hb dL_league_139 (by decide) (fun c9 => absurd (by decide) c9) (fun _ => ?_)
            refine lv_iconst (v := 1) hx hb dL_league_142 (by decide) ?_
            refine lv_goto (tgt := 147) hx hb dL_league_143 (by decide) ?_
            exact lx_zret hx hb hr hlocks (by rfl) ⟨rfl, rfl⟩ hP hS (by omega) (by omega) dL_league_147
    | succ d ih =>
      intro k hk u H locs cells slots hc hs hP hD hS ls hl
      have hk9 : k < nB V.σ := by omega
      refine lv_iload hx hb dL_league_20 (lv_at hl 0 rfl) ?_
      refine lv_iload hx hb dL_league_22 (lv_at hl 1 rfl) ?_
      refine lv_icmp_ge (tgt := 59) hx hb dL_league_24 (by decide) (fun c9 => absurd c9 (fun q => absurd ((nI_leI (by omega) (by omega)).mp q) (by omega))) (fun _ => ?_)
      refine lv_aload hx hb dL_league_27 (lv_at hl 2 rfl) ?_
      refine lv_iload hx hb dL_league_29 (lv_at hl 0 rfl) ?_
      refine r_row (Wc := [OW cy a V u, rowsW cy ro ra V.σ]) hx hb hK hP 1 rfl k rfl hk9 hN dL_league_31 ?_
      refine lv_astore (lv' := [(7, .ref (ra k)), (6, .int (nI k)), (5, .int (nI (nB V.σ))), (4, .ref ro), (3, .int (sumM (hB V.σ) (mB V.σ) k)), (2, .int (cntM (mB V.σ) k)), (1, .ref ro), (0, .ref a.aX)]) hx hb dL_league_32 hl (by decide) rfl (fun ls hl => ?_)
      refine lv_iload_n hx hb dL_league_34 rfl (lv_at hl 5 rfl) ?_
      refine lv_aload hx hb dL_league_35 (lv_at hl 0 rfl) ?_
      refine lv_iconst (v := 3) hx hb dL_league_37 (by decide) ?_
      refine r_get (Wc := [OW cy a V u, rowsW cy ro ra V.σ]) (v := mB V.σ k) hx hb hK hP 1 rfl k 3 rfl (by decide) hk9 rfl dL_league_38 ?_
      refine lv_iadd hx hb dL_league_39 ?_
      refine lv_istore_n (lv' := [(2, .int ((cntM (mB V.σ) k) + (mB V.σ k))), (7, .ref (ra k)), (6, .int (nI k)), (5, .int (nI (nB V.σ))), (4, .ref ro), (3, .int (sumM (hB V.σ) (mB V.σ) k)), (1, .ref ro), (0, .ref a.aX)]) hx hb dL_league_40 rfl hl (by decide) rfl (fun ls hl => ?_)
      refine lv_iload_n hx hb dL_league_41 rfl (lv_at hl 5 rfl) ?_
      refine lv_aload hx hb dL_league_42 (lv_at hl 1 rfl) ?_
      refine lv_iconst (v := 3) hx hb dL_league_44 (by decide) ?_
      refine r_get (Wc := [OW cy a V u, rowsW cy ro ra V.σ]) (v := mB V.σ k) hx hb hK hP 1 rfl k 3 rfl (by decide) hk9 rfl dL_league_45 ?_
      refine lv_aload hx hb dL_league_46 (lv_at hl 1 rfl) ?_
      refine lv_iconst (v := 1) hx hb dL_league_48 (by decide) ?_
      refine r_get (Wc := [OW cy a V u, rowsW cy ro ra V.σ]) (v := hB V.σ k) hx hb hK hP 1 rfl k 1 rfl (by decide) hk9 rfl dL_league_49 ?_
      refine lv_imul hx hb dL_league_50 ?_
      refine lv_iadd hx hb dL_league_51 ?_
      refine lv_istore_n (lv' := [(3, .int ((sumM (hB V.σ) (mB V.σ) k) + ((mB V.σ k) * (hB V.σ k)))), (2, .int ((cntM (mB V.σ) k) + (mB V.σ k))), (7, .ref (ra k)), (6, .int (nI k)), (5, .int (nI (nB V.σ))), (4, .ref ro), (1, .ref ro), (0, .ref a.aX)]) hx hb dL_league_52 rfl hl (by decide) rfl (fun ls hl => ?_)
      refine lv_iinc (v := nI (k + 1)) (lv' := [(6, .int (nI (k + 1))), (3, .int ((sumM (hB V.σ) (mB V.σ) k) + ((mB V.σ k) * (hB V.σ k)))), (2, .int ((cntM (mB V.σ) k) + (mB V.σ k))), (7, .ref (ra k)), (5, .int (nI (nB V.σ))), (4, .ref ro), (1, .ref ro), (0, .ref a.aX)]) hx hb dL_league_53 hl (k := 3) rfl (m_inc _) (by decide) rfl (fun ls hl => ?_)
      refine lv_goto (tgt := 20) hx hb dL_league_56 (by decide) ?_
      rcases hm k (by omega) with m9 | m9
      · have m8 := m9
        have e20_3 : sumM (hB V.σ) (mB V.σ) (k + 1) = (sumM (hB V.σ) (mB V.σ) k) + ((mB V.σ k) * (hB V.σ k)) := (by rw [m9, Int32.zero_mul, Int32.add_zero]; simp only [sumM]; rw [if_pos m9])
        have e20_2 : cntM (mB V.σ) (k + 1) = (cntM (mB V.σ) k) + (mB V.σ k) := (by rw [m9, Int32.add_zero]; simp only [cntM]; rw [if_pos m9])
        exact ih (k + 1) (by omega) _ _ _ _ _ (by omega) (by omega) hP hD hS ls (by rw [e20_3, e20_2]; exact lv_sub hl [0, 4, 5, 1, 2, 6, 7] rfl)
      · have m8 : ¬ mB V.σ k = 0 := by rw [m9]; decide
        have e20_3 : sumM (hB V.σ) (mB V.σ) (k + 1) = (sumM (hB V.σ) (mB V.σ) k) + ((mB V.σ k) * (hB V.σ k)) := (by rw [m9, Int32.one_mul]; simp only [sumM]; rw [if_neg m8])
        have e20_2 : cntM (mB V.σ) (k + 1) = (cntM (mB V.σ) k) + (mB V.σ k) := (by rw [m9]; simp only [cntM]; rw [if_neg m8])
        exact ih (k + 1) (by omega) _ _ _ _ _ (by omega) (by omega) hP hD hS ls (by rw [e20_3, e20_2]; exact lv_sub hl [0, 4, 5, 1, 2, 6, 7] rfl)
  exact L20 (nB V.σ) 0 (by omega) _ _ _ _ _ (by omega) (by omega) hP hD hS ls (lv_sub hl [0, 1, 2, 3, 4, 5, 6] rfl)
